set_option maxRecDepth 20000 in
set_option maxHeartbeats 2000000 in
theorem kX4_withRow_0 {K : KT} {G : St} {Q : Int32 → St → Prop} {x0 : Int32} {x1 : Int32} (hL : Lay G.2.2) 
    (hB : Q (x0 + (1 <<< ((3 * x1) &&& 31))) G) :
    EvI K mX4_withRow 0 0 [(0, .int x0), (1, .int x1)] [] G Q := by
  refine E_iload_n 0 dX4_withRow_0 rfl rfl ?_
  refine E_iconst (v := 1) dX4_withRow_1 (by decide) ?_
  refine E_iconst (v := 3) dX4_withRow_2 (by decide) ?_
  refine E_iload_n 1 dX4_withRow_3 rfl rfl ?_
  refine E_imul dX4_withRow_4 ?_
  refine E_ishl dX4_withRow_5 ?_
  refine E_iadd dX4_withRow_6 ?_
  exact E_iret rfl dX4_withRow_7 ⟨_, rfl, rfl, hB⟩

set_option maxRecDepth 20000 in
set_option maxHeartbeats 2000000 in
theorem kX4_withTerm_0 {K : KT} {G : St} {Q : Int32 → St → Prop} {x0 : Int32} {x1 : Int32} {x2 : Int32} (hL : Lay G.2.2) 
    (hB : Q (x0 ||| (x2 <<< ((15 + (3 * x1)) &&& 31))) G) :
    EvI K mX4_withTerm 0 0 [(0, .int x0), (1, .int x1), (2, .int x2)] [] G Q := by
  refine E_iload_n 0 dX4_withTerm_0 rfl rfl ?_
  refine E_iload_n 2 dX4_withTerm_1 rfl rfl ?_
  refine E_bipush (v := 15) dX4_withTerm_2 (by decide) ?_
  refine E_iconst (v := 3) dX4_withTerm_4 (by decide) ?_
  refine E_iload_n 1 dX4_withTerm_5 rfl rfl ?_
  refine E_imul dX4_withTerm_6 ?_
  refine E_iadd dX4_withTerm_7 ?_
  refine E_ishl dX4_withTerm_8 ?_
  refine E_ior dX4_withTerm_9 ?_
  exact E_iret rfl dX4_withTerm_10 ⟨_, rfl, rfl, hB⟩

set_option maxRecDepth 20000 in
set_option maxHeartbeats 2000000 in
theorem kX4_shapeOf_0 {K : KT} {G : St} {Q : Int32 → St → Prop} {h0 : Nat} {x2 : Int32} {x3 : Int32} (hL : Lay G.2.2) (hh0 : h0 = 39 ∨ h0 = 49)
    (hB : EvI K mJ6_bitCount_0f7a4 0 0 [(0, .int x2)] [] G (fun r1 G1 => EvI K mX4_shapeOf 2 12 [(0, .ref h0), (1, .ref 5), (2, .int x2), (3, .int x3), (4, .int 0), (5, .int x2), (6, .int r1)] [] G1 Q)) :
    EvI K mX4_shapeOf 2 0 [(0, .ref h0), (1, .ref 5), (2, .int x2), (3, .int x3)] [] G Q := by
  refine E_iconst (v := 0) dX4_shapeOf_0 (by decide) ?_
  refine E_istore (lv' := [(0, .ref h0), (1, .ref 5), (2, .int x2), (3, .int x3), (4, .int 0)]) dX4_shapeOf_1 (by decide) rfl ?_
  refine E_iload_n 2 dX4_shapeOf_3 rfl rfl ?_
  refine E_istore (lv' := [(0, .ref h0), (1, .ref 5), (2, .int x2), (3, .int x3), (4, .int 0), (5, .int x2)]) dX4_shapeOf_4 (by decide) rfl ?_
  refine E_iload_n 2 dX4_shapeOf_6 rfl rfl ?_
  refine E_callS (as := [.int x2]) (st := []) cm_J6_bitCount_0f7a4 cS_X4_75 rfl rfl (by decide) (Nat.le_of_ble_eq_true rfl) (Nat.le_of_ble_eq_true rfl) dX4_shapeOf_7 hB (fun r G1 hr => ?_)
  obtain ⟨r1, rfl, hE1, hB⟩ := hr
  have hL1 : Lay G1.2.2 := by rw [hE1]; exact hL
  have hE1 : G1.2.2 = G.2.2 := hE1
  show Ev K mX4_shapeOf 2 10 [(0, .ref h0), (1, .ref 5), (2, .int x2), (3, .int x3), (4, .int 0), (5, .int x2)] [.int r1] G1 _
  refine E_istore (lv' := [(0, .ref h0), (1, .ref 5), (2, .int x2), (3, .int x3), (4, .int 0), (5, .int x2), (6, .int r1)]) dX4_shapeOf_10 (by decide) rfl ?_
  exact EvI.tr hB hE1

set_option maxRecDepth 20000 in
set_option maxHeartbeats 2000000 in
theorem kX4_shapeOf_12 {K : KT} {G : St} {Q : Int32 → St → Prop} {h0 : Nat} {x2 : Int32} {x3 : Int32} {x4 : Int32} {x5 : Int32} {x6 : Int32} (hL : Lay G.2.2) (hh0 : h0 = 39 ∨ h0 = 49)
    (hB : ((x6 ≤ 0 → EvI K mX4_shapeOf 2 52 [(0, .ref h0), (1, .ref 5), (2, .int x2), (3, .int x3), (4, .int x4), (6, .int 0)] [] G Q) ∧ (¬ x6 ≤ 0 → EvI K mJ6_numberOfTrailingZeros_0f7a4 0 0 [(0, .int x5)] [] G (fun r1 G1 => vp_in r1 30 ∧ EvI K mX4_withRow 0 0 [(0, .int x4), (1, .int (sI G1 (h0 + 5) (Int32.toNatClampNeg r1)))] [] G1 (fun r3 G3 => EvI K mX4_shapeOf 2 12 [(0, .ref h0), (1, .ref 5), (2, .int x2), (3, .int x3), (4, .int r3), (5, .int (x5 &&& (x5 - 1))), (6, .int (x6 + (-1)))] [] G3 Q))))) :
    EvI K mX4_shapeOf 2 12 [(0, .ref h0), (1, .ref 5), (2, .int x2), (3, .int x3), (4, .int x4), (5, .int x5), (6, .int x6)] [] G Q := by
  refine E_iload 6 dX4_shapeOf_12 rfl ?_
  refine E_if_le (tgt := 49) dX4_shapeOf_14 (by decide) (fun c => ?_) (fun c => ?_)
  · have hB := hB.1 c
    refine E_iconst (v := 0) dX4_shapeOf_49 (by decide) ?_
    refine E_istore (lv' := [(0, .ref h0), (1, .ref 5), (2, .int x2), (3, .int x3), (4, .int x4), (5, .int x5), (6, .int 0)]) dX4_shapeOf_50 (by decide) rfl ?_
    refine E_sub (lv' := [(0, .ref h0), (1, .ref 5), (2, .int x2), (3, .int x3), (4, .int x4), (6, .int 0)]) [0, 1, 2, 3, 4, 6] rfl ?_
    exact EvI.tr hB rfl
  · have hB := hB.2 c
    refine E_iload 4 dX4_shapeOf_17 rfl ?_
    refine E_aload_n 0 dX4_shapeOf_19 rfl rfl rfl ?_
    refine E_gR (j := h0 + 5) fG_X4_80 rfl (lhO hL hh0) (lhR4 hL hh0) (Nat.succ_pos _) dX4_shapeOf_20 ?_
    refine E_iload 5 dX4_shapeOf_23 rfl ?_
    refine E_callS (as := [.int x5]) (st := [.ref (h0 + 5), .int x4]) cm_J6_numberOfTrailingZeros_0f7a4 cS_X4_83 rfl rfl (by decide) (Nat.le_of_ble_eq_true rfl) (Nat.le_of_ble_eq_true rfl) dX4_shapeOf_25 hB (fun r G1 hr => ?_)
    obtain ⟨r1, rfl, hE1, hB⟩ := hr
    have hL1 : Lay G1.2.2 := by rw [hE1]; exact hL
    have hE1 : G1.2.2 = G.2.2 := hE1
    show Ev K mX4_shapeOf 2 28 [(0, .ref h0), (1, .ref 5), (2, .int x2), (3, .int x3), (4, .int x4), (5, .int x5), (6, .int x6)] [.int r1, .ref (h0 + 5), .int x4] G1 _
    obtain ⟨qq2, hB⟩ := hB
    refine E_aI (p := Int32.toNatClampNeg r1) (v := sI G1 (h0 + 5) (Int32.toNatClampNeg r1)) (lhA4 hL1 hh0) qq2 rfl rfl dX4_shapeOf_28 ?_
    refine E_callS (as := [.int x4, .int (sI G1 (h0 + 5) (Int32.toNatClampNeg r1))]) (st := []) cm_X4_withRow cS_X4_86 rfl rfl (by decide) (Nat.le_of_ble_eq_true rfl) (Nat.le_of_ble_eq_true rfl) dX4_shapeOf_29 hB (fun r G3 hr => ?_)
    obtain ⟨r3, rfl, hE3, hB⟩ := hr
    have hL3 : Lay G3.2.2 := by rw [hE3]; exact hL1
    have hE3 : G3.2.2 = G.2.2 := hE3.trans hE1
    show Ev K mX4_shapeOf 2 32 [(0, .ref h0), (1, .ref 5), (2, .int x2), (3, .int x3), (4, .int x4), (5, .int x5), (6, .int x6)] [.int r3] G3 _
    refine E_istore (lv' := [(0, .ref h0), (1, .ref 5), (2, .int x2), (3, .int x3), (4, .int r3), (5, .int x5), (6, .int x6)]) dX4_shapeOf_32 (by decide) rfl ?_
    refine E_iload 5 dX4_shapeOf_34 rfl ?_
    refine E_iload 5 dX4_shapeOf_36 rfl ?_
    refine E_iconst (v := 1) dX4_shapeOf_38 (by decide) ?_
    refine E_isub dX4_shapeOf_39 ?_
    refine E_iand dX4_shapeOf_40 ?_
    refine E_istore (lv' := [(0, .ref h0), (1, .ref 5), (2, .int x2), (3, .int x3), (4, .int r3), (5, .int (x5 &&& (x5 - 1))), (6, .int x6)]) dX4_shapeOf_41 (by decide) rfl ?_
    refine E_iinc (v := x6 + (-1)) (lv' := [(0, .ref h0), (1, .ref 5), (2, .int x2), (3, .int x3), (4, .int r3), (5, .int (x5 &&& (x5 - 1))), (6, .int (x6 + (-1)))]) 6 dX4_shapeOf_43 rfl rfl (by decide) rfl ?_
    refine E_goto (tgt := 12) dX4_shapeOf_46 (by decide) ?_
    exact EvI.tr hB hE3

set_option maxRecDepth 20000 in
set_option maxHeartbeats 2000000 in
theorem kX4_shapeOf_52 {K : KT} {G : St} {Q : Int32 → St → Prop} {h0 : Nat} {x2 : Int32} {x3 : Int32} {x4 : Int32} {x6 : Int32} (hL : Lay G.2.2) (hh0 : h0 = 39 ∨ h0 = 49)
    (hB : ((x3 ≤ x6 → Q x4 G) ∧ (¬ x3 ≤ x6 → EvI K mX0_holderIn 1 0 [(0, .ref 5), (1, .int x2), (2, .int x6)] [] G (fun r1 G1 => EvI K mX1_isTold 0 0 [(0, .ref h0), (1, .int r1)] [] G1 (fun r2 G2 => ((r2 = 0 → EvI K mX4_shapeOf 2 92 [(0, .ref h0), (1, .ref 5), (2, .int x2), (3, .int x3), (4, .int x4), (6, .int x6)] [] G2 Q) ∧ (¬ r2 = 0 → vp_in r1 30 ∧ EvI K mX4_withTerm 0 0 [(0, .int x4), (1, .int x6), (2, .int (sI G2 (h0 + 5) (Int32.toNatClampNeg r1)))] [] G2 (fun r4 G4 => EvI K mX4_shapeOf 2 92 [(0, .ref h0), (1, .ref 5), (2, .int x2), (3, .int x3), (4, .int r4), (6, .int x6)] [] G4 Q)))))))) :
    EvI K mX4_shapeOf 2 52 [(0, .ref h0), (1, .ref 5), (2, .int x2), (3, .int x3), (4, .int x4), (6, .int x6)] [] G Q := by
  refine E_iload 5 dX4_shapeOf_52 rfl ?_
  refine E_iload_n 3 dX4_shapeOf_54 rfl rfl ?_
  refine E_icmp_ge (tgt := 98) dX4_shapeOf_55 (by decide) (fun c => ?_) (fun c => ?_)
  · have hB := hB.1 c
    refine E_iload 4 dX4_shapeOf_98 rfl ?_
    exact E_iret rfl dX4_shapeOf_100 ⟨_, rfl, rfl, hB⟩
  · have hB := hB.2 c
    refine E_aload_n 1 dX4_shapeOf_58 rfl rfl rfl ?_
    refine E_iload_n 2 dX4_shapeOf_59 rfl rfl ?_
    refine E_iload 5 dX4_shapeOf_60 rfl ?_
    refine E_cV (ci := 0) (as := [.int x2, .int x6]) (st := []) cm_X0_holderIn cV_X4_89 ⟨_, _, rfl⟩ (by decide) (lo_5 hL) rfl rfl (by decide) (Nat.le_of_ble_eq_true rfl) (Nat.le_of_ble_eq_true rfl) dX4_shapeOf_62 hB (fun r G1 hr => ?_)
    obtain ⟨r1, rfl, hE1, hB⟩ := hr
    have hL1 : Lay G1.2.2 := by rw [hE1]; exact hL
    have hE1 : G1.2.2 = G.2.2 := hE1
    show Ev K mX4_shapeOf 2 65 [(0, .ref h0), (1, .ref 5), (2, .int x2), (3, .int x3), (4, .int x4), (6, .int x6)] [.int r1] G1 _
    refine E_istore (lv' := [(0, .ref h0), (1, .ref 5), (2, .int x2), (3, .int x3), (4, .int x4), (6, .int x6), (7, .int r1)]) dX4_shapeOf_65 (by decide) rfl ?_
    refine E_aload_n 0 dX4_shapeOf_67 rfl rfl rfl ?_
    refine E_iload 6 dX4_shapeOf_68 rfl ?_
    refine E_cV (ci := 1) (as := [.int r1]) (st := []) cm_X1_isTold cV_X4_94 ⟨_, _, rfl⟩ (by decide) (lhO hL1 hh0) rfl rfl (by decide) (Nat.le_of_ble_eq_true rfl) (Nat.le_of_ble_eq_true rfl) dX4_shapeOf_70 hB (fun r G2 hr => ?_)
    obtain ⟨r2, rfl, hE2, hB⟩ := hr
    have hL2 : Lay G2.2.2 := by rw [hE2]; exact hL1
    have hE2 : G2.2.2 = G.2.2 := hE2.trans hE1
    show Ev K mX4_shapeOf 2 73 [(0, .ref h0), (1, .ref 5), (2, .int x2), (3, .int x3), (4, .int x4), (6, .int x6), (7, .int r1)] [.int r2] G2 _
    refine E_if_eq (tgt := 92) dX4_shapeOf_73 (by decide) (fun c => ?_) (fun c => ?_)
    · have hB := hB.1 c
      refine E_sub (lv' := [(0, .ref h0), (1, .ref 5), (2, .int x2), (3, .int x3), (4, .int x4), (6, .int x6)]) [0, 1, 2, 3, 4, 5] rfl ?_
      exact EvI.tr hB hE2
    · have hB := hB.2 c
      refine E_iload 4 dX4_shapeOf_76 rfl ?_
      refine E_iload 5 dX4_shapeOf_78 rfl ?_
      refine E_aload_n 0 dX4_shapeOf_80 rfl rfl rfl ?_
      refine E_gR (j := h0 + 5) fG_X4_80 rfl (lhO hL2 hh0) (lhR4 hL2 hh0) (Nat.succ_pos _) dX4_shapeOf_81 ?_
      refine E_iload 6 dX4_shapeOf_84 rfl ?_
      obtain ⟨qq3, hB⟩ := hB
      refine E_aI (p := Int32.toNatClampNeg r1) (v := sI G2 (h0 + 5) (Int32.toNatClampNeg r1)) (lhA4 hL2 hh0) qq3 rfl rfl dX4_shapeOf_86 ?_
      refine E_callS (as := [.int x4, .int x6, .int (sI G2 (h0 + 5) (Int32.toNatClampNeg r1))]) (st := []) cm_X4_withTerm cS_X4_98 rfl rfl (by decide) (Nat.le_of_ble_eq_true rfl) (Nat.le_of_ble_eq_true rfl) dX4_shapeOf_87 hB (fun r G4 hr => ?_)
      obtain ⟨r4, rfl, hE4, hB⟩ := hr
      have hL4 : Lay G4.2.2 := by rw [hE4]; exact hL2
      have hE4 : G4.2.2 = G.2.2 := hE4.trans hE2
      show Ev K mX4_shapeOf 2 90 [(0, .ref h0), (1, .ref 5), (2, .int x2), (3, .int x3), (4, .int x4), (6, .int x6), (7, .int r1)] [.int r4] G4 _
      refine E_istore (lv' := [(0, .ref h0), (1, .ref 5), (2, .int x2), (3, .int x3), (4, .int r4), (6, .int x6), (7, .int r1)]) dX4_shapeOf_90 (by decide) rfl ?_
      refine E_sub (lv' := [(0, .ref h0), (1, .ref 5), (2, .int x2), (3, .int x3), (4, .int r4), (6, .int x6)]) [0, 1, 2, 3, 4, 5] rfl ?_
      exact EvI.tr hB hE4

set_option maxRecDepth 20000 in
set_option maxHeartbeats 2000000 in
theorem kX4_shapeOf_92 {K : KT} {G : St} {Q : Int32 → St → Prop} {h0 : Nat} {x2 : Int32} {x3 : Int32} {x4 : Int32} {x6 : Int32} (hL : Lay G.2.2) (hh0 : h0 = 39 ∨ h0 = 49)
    (hB : EvI K mX4_shapeOf 2 52 [(0, .ref h0), (1, .ref 5), (2, .int x2), (3, .int x3), (4, .int x4), (6, .int (x6 + 1))] [] G Q) :
    EvI K mX4_shapeOf 2 92 [(0, .ref h0), (1, .ref 5), (2, .int x2), (3, .int x3), (4, .int x4), (6, .int x6)] [] G Q := by
  refine E_iinc (v := x6 + 1) (lv' := [(0, .ref h0), (1, .ref 5), (2, .int x2), (3, .int x3), (4, .int x4), (6, .int (x6 + 1))]) 5 dX4_shapeOf_92 rfl rfl (by decide) rfl ?_
  refine E_goto (tgt := 52) dX4_shapeOf_95 (by decide) ?_
  exact EvI.tr hB rfl

set_option maxRecDepth 20000 in
set_option maxHeartbeats 2000000 in
theorem kX4_headOf_0 {K : KT} {G : St} {Q : Int32 → St → Prop} {x0 : Int32} (hL : Lay G.2.2) 
    (hB : EvI K mJ9_floorMod_7cf53 0 0 [(0, .int (((x0 ^^^ (x0 >>> (6 &&& 31))) ^^^ (x0 >>> (13 &&& 31))) ^^^ (x0 >>> (19 &&& 31)))), (1, .int 64)] [] G (fun r1 G1 => Q r1 G1)) :
    EvI K mX4_headOf 1 0 [(0, .int x0)] [] G Q := by
  refine E_iload_n 0 dX4_headOf_0 rfl rfl ?_
  refine E_iload_n 0 dX4_headOf_1 rfl rfl ?_
  refine E_bipush (v := 6) dX4_headOf_2 (by decide) ?_
  refine E_ishr dX4_headOf_4 ?_
  refine E_ixor dX4_headOf_5 ?_
  refine E_iload_n 0 dX4_headOf_6 rfl rfl ?_
  refine E_bipush (v := 13) dX4_headOf_7 (by decide) ?_
  refine E_ishr dX4_headOf_9 ?_
  refine E_ixor dX4_headOf_10 ?_
  refine E_iload_n 0 dX4_headOf_11 rfl rfl ?_
  refine E_bipush (v := 19) dX4_headOf_12 (by decide) ?_
  refine E_ishr dX4_headOf_14 ?_
  refine E_ixor dX4_headOf_15 ?_
  refine E_bipush (v := 64) dX4_headOf_16 (by decide) ?_
  refine E_callS (as := [.int (((x0 ^^^ (x0 >>> (6 &&& 31))) ^^^ (x0 >>> (13 &&& 31))) ^^^ (x0 >>> (19 &&& 31))), .int 64]) (st := []) cm_J9_floorMod_7cf53 cS_X4_105 rfl rfl (by decide) (Nat.le_of_ble_eq_true rfl) (Nat.le_of_ble_eq_true rfl) dX4_headOf_18 hB (fun r G1 hr => ?_)
  obtain ⟨r1, rfl, hE1, hB⟩ := hr
  have hL1 : Lay G1.2.2 := by rw [hE1]; exact hL
  have hE1 : G1.2.2 = G.2.2 := hE1
  show Ev K mX4_headOf 1 21 [(0, .int x0)] [.int r1] G1 _
  exact E_iret rfl dX4_headOf_21 ⟨_, rfl, hE1, hB⟩

set_option maxRecDepth 20000 in
set_option maxHeartbeats 2000000 in
theorem kX4_find_0 {K : KT} {G : St} {Q : Int32 → St → Prop} {x1 : Int32} (hL : Lay G.2.2) 
    (hB : EvI K mX4_headOf 1 0 [(0, .int x1)] [] G (fun r1 G1 => vp_in r1 64 ∧ EvI K mX4_find 2 12 [(0, .ref 28), (1, .int x1), (2, .int (sI G1 29 (Int32.toNatClampNeg r1))), (3, .int 0)] [] G1 Q)) :
    EvI K mX4_find 2 0 [(0, .ref 28), (1, .int x1)] [] G Q := by
  refine E_aload_n 0 dX4_find_0 rfl rfl rfl ?_
  refine E_gR (j := 29) fG_X4_13 rfl (lo_28 hL) (lr_28_0 hL) (by decide) dX4_find_1 ?_
  refine E_iload_n 1 dX4_find_4 rfl rfl ?_
  refine E_callS (as := [.int x1]) (st := [.ref 29]) cm_X4_headOf cS_X4_102 rfl rfl (by decide) (Nat.le_of_ble_eq_true rfl) (Nat.le_of_ble_eq_true rfl) dX4_find_5 hB (fun r G1 hr => ?_)
  obtain ⟨r1, rfl, hE1, hB⟩ := hr
  have hL1 : Lay G1.2.2 := by rw [hE1]; exact hL
  have hE1 : G1.2.2 = G.2.2 := hE1
  show Ev K mX4_find 2 8 [(0, .ref 28), (1, .int x1)] [.int r1, .ref 29] G1 _
  obtain ⟨qq2, hB⟩ := hB
  refine E_aI (p := Int32.toNatClampNeg r1) (v := sI G1 29 (Int32.toNatClampNeg r1)) (la_29 hL1) qq2 rfl rfl dX4_find_8 ?_
  refine E_istore_n (lv' := [(0, .ref 28), (1, .int x1), (2, .int (sI G1 29 (Int32.toNatClampNeg r1)))]) dX4_find_9 rfl (by decide) rfl ?_
  refine E_iconst (v := 0) dX4_find_10 (by decide) ?_
  refine E_istore_n (lv' := [(0, .ref 28), (1, .int x1), (2, .int (sI G1 29 (Int32.toNatClampNeg r1))), (3, .int 0)]) dX4_find_11 rfl (by decide) rfl ?_
  exact EvI.tr hB hE1

set_option maxRecDepth 20000 in
set_option maxHeartbeats 2000000 in
theorem kX4_find_12 {K : KT} {G : St} {Q : Int32 → St → Prop} {x1 : Int32} {x2 : Int32} {x3 : Int32} (hL : Lay G.2.2) 
    (hB : (((sI G 28 12) ≤ x3 → Q (-1) G) ∧ (¬ (sI G 28 12) ≤ x3 → ((x2 = (-1) → Q (-1) G) ∧ (¬ x2 = (-1) → vp_in x2 (sN G (sR G 28 2)) ∧ ((¬ (sI G (sR G 28 2) (Int32.toNatClampNeg x2)) = x1 → vp_in x2 (sN G (sR G 28 1)) ∧ EvI K mX4_find 2 12 [(0, .ref 28), (1, .int x1), (2, .int (sI G (sR G 28 1) (Int32.toNatClampNeg x2))), (3, .int (x3 + 1))] [] G Q) ∧ ((sI G (sR G 28 2) (Int32.toNatClampNeg x2)) = x1 → Q x2 G))))))) :
    EvI K mX4_find 2 12 [(0, .ref 28), (1, .int x1), (2, .int x2), (3, .int x3)] [] G Q := by
  refine E_iload_n 3 dX4_find_12 rfl rfl ?_
  refine E_aload_n 0 dX4_find_13 rfl rfl rfl ?_
  refine E_gI (v := sI G 28 12) fG_X4_46 rfl (lo_28 hL) rfl dX4_find_14 ?_
  refine E_icmp_ge (tgt := 50) dX4_find_17 (by decide) (fun c => ?_) (fun c => ?_)
  · have hB := hB.1 c
    refine E_iconst (v := (-1)) dX4_find_50 (by decide) ?_
    exact E_iret rfl dX4_find_51 ⟨_, rfl, rfl, hB⟩
  · have hB := hB.2 c
    refine E_iload_n 2 dX4_find_20 rfl rfl ?_
    refine E_iconst (v := (-1)) dX4_find_21 (by decide) ?_
    refine E_icmp_eq (tgt := 50) dX4_find_22 (by decide) (fun c => ?_) (fun c => ?_)
    · have hB := hB.1 c
      refine E_iconst (v := (-1)) dX4_find_50 (by decide) ?_
      exact E_iret rfl dX4_find_51 ⟨_, rfl, rfl, hB⟩
    · have hB := hB.2 c
      refine E_aload_n 0 dX4_find_25 rfl rfl rfl ?_
      refine E_gR (j := sR G 28 2) fG_X4_20 rfl (lo_28 hL) rfl (lg_28_2 hL).2.1 dX4_find_26 ?_
      refine E_iload_n 2 dX4_find_29 rfl rfl ?_
      obtain ⟨qq1, hB⟩ := hB
      refine E_aI (p := Int32.toNatClampNeg x2) (v := sI G (sR G 28 2) (Int32.toNatClampNeg x2)) (lg_28_2 hL) qq1 rfl rfl dX4_find_30 ?_
      refine E_iload_n 1 dX4_find_31 rfl rfl ?_
      refine E_icmp_ne (tgt := 37) dX4_find_32 (by decide) (fun c => ?_) (fun c => ?_)
      · have hB := hB.1 c
        refine E_aload_n 0 dX4_find_37 rfl rfl rfl ?_
        refine E_gR (j := sR G 28 1) fG_X4_17 rfl (lo_28 hL) rfl (lg_28_1 hL).2.1 dX4_find_38 ?_
        refine E_iload_n 2 dX4_find_41 rfl rfl ?_
        obtain ⟨qq2, hB⟩ := hB
        refine E_aI (p := Int32.toNatClampNeg x2) (v := sI G (sR G 28 1) (Int32.toNatClampNeg x2)) (lg_28_1 hL) qq2 rfl rfl dX4_find_42 ?_
        refine E_istore_n (lv' := [(0, .ref 28), (1, .int x1), (2, .int (sI G (sR G 28 1) (Int32.toNatClampNeg x2))), (3, .int x3)]) dX4_find_43 rfl (by decide) rfl ?_
        refine E_iinc (v := x3 + 1) (lv' := [(0, .ref 28), (1, .int x1), (2, .int (sI G (sR G 28 1) (Int32.toNatClampNeg x2))), (3, .int (x3 + 1))]) 3 dX4_find_44 rfl rfl (by decide) rfl ?_
        refine E_goto (tgt := 12) dX4_find_47 (by decide) ?_
        exact EvI.tr hB rfl
      · have hB := hB.2 c
        refine E_iload_n 2 dX4_find_35 rfl rfl ?_
        exact E_iret rfl dX4_find_36 ⟨_, rfl, rfl, hB⟩

set_option maxRecDepth 20000 in
set_option maxHeartbeats 2000000 in
theorem kX4_add_0 {K : KT} {G : St} {Q : Int32 → St → Prop} {x1 : Int32} {x2 : Int32} (hL : Lay G.2.2) 
    (hB : (((sI G 28 12) < (nI (sN G (sR G 28 2))) → EvIa K mX4_add 2 80 [(0, .ref 28), (1, .int x1), (2, .int x2)] [] G Q) ∧ (¬ (sI G 28 12) < (nI (sN G (sR G 28 2))) → EvAa K mJ7_copyOf_59c91 1 0 [(0, .ref (sR G 28 1)), (1, .int (2 * (sI G 28 12)))] [] G (fun r1 G1 => Lay G1.2.2 ∧ 0 < r1 ∧ Lay (uR G1 28 1 r1).2.2 ∧ EvAa K mJ7_copyOf_59c91 1 0 [(0, .ref (sR (uR G1 28 1 r1) 28 2)), (1, .int (2 * (sI G1 28 12)))] [] (uR G1 28 1 r1) (fun r4 G4 => Lay G4.2.2 ∧ 0 < r4 ∧ Lay (uR G4 28 2 r4).2.2 ∧ EvAa K mJ7_copyOf_59c91 1 0 [(0, .ref (sR (uR G4 28 2 r4) 28 3)), (1, .int (2 * (sI G4 28 12)))] [] (uR G4 28 2 r4) (fun r7 G7 => Lay G7.2.2 ∧ 0 < r7 ∧ Lay (uR G7 28 3 r7).2.2 ∧ EvAa K mJ7_copyOf_59c91 1 0 [(0, .ref (sR (uR G7 28 3 r7) 28 4)), (1, .int (2 * (sI G7 28 12)))] [] (uR G7 28 3 r7) (fun r10 G10 => Lay G10.2.2 ∧ 0 < r10 ∧ EvIa K mX4_add 2 80 [(0, .ref 28), (1, .int x1), (2, .int x2)] [] (uR G10 28 4 r10) Q))))))) :
    EvIa K mX4_add 2 0 [(0, .ref 28), (1, .int x1), (2, .int x2)] [] G Q := by
  refine E_aload_n 0 dX4_add_0 rfl rfl rfl ?_
  refine E_gI (v := sI G 28 12) fG_X4_46 rfl (lo_28 hL) rfl dX4_add_1 ?_
  refine E_aload_n 0 dX4_add_4 rfl rfl rfl ?_
  refine E_gR (j := sR G 28 2) fG_X4_20 rfl (lo_28 hL) rfl (lg_28_2 hL).2.1 dX4_add_5 ?_
  refine E_len (v := nI (sN G (sR G 28 2))) (lg_28_2 hL) (by decide) rfl dX4_add_8 ?_
  refine E_icmp_lt (tgt := 80) dX4_add_9 (by decide) (fun c => ?_) (fun c => ?_)
  · have hB := hB.1 c
    exact hB
  · have hB := hB.2 c
    refine E_aload_n 0 dX4_add_12 rfl rfl rfl ?_
    refine E_aload_n 0 dX4_add_13 rfl rfl rfl ?_
    refine E_gR (j := sR G 28 1) fG_X4_17 rfl (lo_28 hL) rfl (lg_28_1 hL).2.1 dX4_add_14 ?_
    refine E_iconst (v := 2) dX4_add_17 (by decide) ?_
    refine E_aload_n 0 dX4_add_18 rfl rfl rfl ?_
    refine E_gI (v := sI G 28 12) fG_X4_46 rfl (lo_28 hL) rfl dX4_add_19 ?_
    refine E_imul dX4_add_22 ?_
    refine E_callS (as := [.ref (sR G 28 1), .int (2 * (sI G 28 12))]) (st := [.ref 28]) cm_J7_copyOf_59c91 cS_X4_110 rfl rfl (by decide) (Nat.le_of_ble_eq_true rfl) (Nat.le_of_ble_eq_true rfl) dX4_add_23 hB (fun r G1 hr => ?_)
    obtain ⟨r1, rfl, hL1, hB⟩ := hr
    show Ev K mX4_add 2 26 [(0, .ref 28), (1, .int x1), (2, .int x2)] [.ref r1, .ref 28] G1 _
    obtain ⟨qq2, hB⟩ := hB
    refine E_pR fP_X4_17 rfl (lo_28 hL1) (qq2) dX4_add_26 ?_
    refine E_aload_n 0 dX4_add_29 rfl rfl rfl ?_
    refine E_aload_n 0 dX4_add_30 rfl rfl rfl ?_
    refine E_gR (j := sR (uR G1 28 1 r1) 28 2) fG_X4_20 rfl (ob_uR (lo_28 hL1)) rfl (lg_28_2 hL1).2.1 dX4_add_31 ?_
    refine E_iconst (v := 2) dX4_add_34 (by decide) ?_
    refine E_aload_n 0 dX4_add_35 rfl rfl rfl ?_
    refine E_gI (v := sI G1 28 12) fG_X4_46 rfl (ob_uR (lo_28 hL1)) rfl dX4_add_36 ?_
    refine E_imul dX4_add_39 ?_
    obtain ⟨qq3, hB⟩ := hB
    refine E_callS (as := [.ref (sR (uR G1 28 1 r1) 28 2), .int (2 * (sI G1 28 12))]) (st := [.ref 28]) cm_J7_copyOf_59c91 cS_X4_110 rfl rfl (by decide) (Nat.le_of_ble_eq_true rfl) (Nat.le_of_ble_eq_true rfl) dX4_add_40 hB (fun r G4 hr => ?_)
    obtain ⟨r4, rfl, hL4, hB⟩ := hr
    show Ev K mX4_add 2 43 [(0, .ref 28), (1, .int x1), (2, .int x2)] [.ref r4, .ref 28] G4 _
    obtain ⟨qq5, hB⟩ := hB
    refine E_pR fP_X4_20 rfl (lo_28 hL4) (qq5) dX4_add_43 ?_
    refine E_aload_n 0 dX4_add_46 rfl rfl rfl ?_
    refine E_aload_n 0 dX4_add_47 rfl rfl rfl ?_
    refine E_gR (j := sR (uR G4 28 2 r4) 28 3) fG_X4_23 rfl (ob_uR (lo_28 hL4)) rfl (lg_28_3 hL4).2.1 dX4_add_48 ?_
    refine E_iconst (v := 2) dX4_add_51 (by decide) ?_
    refine E_aload_n 0 dX4_add_52 rfl rfl rfl ?_
    refine E_gI (v := sI G4 28 12) fG_X4_46 rfl (ob_uR (lo_28 hL4)) rfl dX4_add_53 ?_
    refine E_imul dX4_add_56 ?_
    obtain ⟨qq6, hB⟩ := hB
    refine E_callS (as := [.ref (sR (uR G4 28 2 r4) 28 3), .int (2 * (sI G4 28 12))]) (st := [.ref 28]) cm_J7_copyOf_59c91 cS_X4_110 rfl rfl (by decide) (Nat.le_of_ble_eq_true rfl) (Nat.le_of_ble_eq_true rfl) dX4_add_57 hB (fun r G7 hr => ?_)
    obtain ⟨r7, rfl, hL7, hB⟩ := hr
    show Ev K mX4_add 2 60 [(0, .ref 28), (1, .int x1), (2, .int x2)] [.ref r7, .ref 28] G7 _
    obtain ⟨qq8, hB⟩ := hB
    refine E_pR fP_X4_23 rfl (lo_28 hL7) (qq8) dX4_add_60 ?_
    refine E_aload_n 0 dX4_add_63 rfl rfl rfl ?_
    refine E_aload_n 0 dX4_add_64 rfl rfl rfl ?_
    refine E_gR (j := sR (uR G7 28 3 r7) 28 4) fG_X4_26 rfl (ob_uR (lo_28 hL7)) rfl (lg_28_4 hL7).2.1 dX4_add_65 ?_
    refine E_iconst (v := 2) dX4_add_68 (by decide) ?_
    refine E_aload_n 0 dX4_add_69 rfl rfl rfl ?_
    refine E_gI (v := sI G7 28 12) fG_X4_46 rfl (ob_uR (lo_28 hL7)) rfl dX4_add_70 ?_
    refine E_imul dX4_add_73 ?_
    obtain ⟨qq9, hB⟩ := hB
    refine E_callS (as := [.ref (sR (uR G7 28 3 r7) 28 4), .int (2 * (sI G7 28 12))]) (st := [.ref 28]) cm_J7_copyOf_59c91 cS_X4_110 rfl rfl (by decide) (Nat.le_of_ble_eq_true rfl) (Nat.le_of_ble_eq_true rfl) dX4_add_74 hB (fun r G10 hr => ?_)
    obtain ⟨r10, rfl, hL10, hB⟩ := hr
    show Ev K mX4_add 2 77 [(0, .ref 28), (1, .int x1), (2, .int x2)] [.ref r10, .ref 28] G10 _
    obtain ⟨qq11, hB⟩ := hB
    refine E_pR fP_X4_26 rfl (lo_28 hL10) (qq11) dX4_add_77 ?_
    exact hB

set_option maxRecDepth 20000 in
set_option maxHeartbeats 2000000 in
theorem kX4_add_80 {K : KT} {G : St} {Q : Int32 → St → Prop} {x1 : Int32} {x2 : Int32} (hL : Lay G.2.2) 
    (hB : EvI K mX4_headOf 1 0 [(0, .int x1)] [] G (fun r1 G1 => vp_in r1 64 ∧ vp_in (sI G1 28 12) (sN G1 (sR G1 28 1)) ∧ ∀ G4 : St, G4 = (uI G1 (sR G1 28 1) (Int32.toNatClampNeg (sI G1 28 12)) (sI G1 29 (Int32.toNatClampNeg r1))) → vp_in r1 64 ∧ vp_in (sI G4 28 12) (sN G4 (sR G4 28 2)) ∧ ∀ G7 : St, G7 = (uI (uI G4 29 (Int32.toNatClampNeg r1) (sI G4 28 12)) (sR G4 28 2) (Int32.toNatClampNeg (sI G4 28 12)) x1) → vp_in (sI G7 28 12) (sN G7 (sR G7 28 3)) ∧ ∀ G9 : St, G9 = (uI G7 (sR G7 28 3) (Int32.toNatClampNeg (sI G7 28 12)) 0) → vp_in (sI G9 28 12) (sN G9 (sR G9 28 4)) ∧ ∀ G11 : St, G11 = (uI G9 (sR G9 28 4) (Int32.toNatClampNeg (sI G9 28 12)) x2) → Q (sI G11 28 12) (uI G11 28 12 ((sI G11 28 12) + 1)))) :
    EvIa K mX4_add 2 80 [(0, .ref 28), (1, .int x1), (2, .int x2)] [] G Q := by
  refine E_iload_n 1 dX4_add_80 rfl rfl ?_
  refine E_callS (as := [.int x1]) (st := []) cm_X4_headOf cS_X4_102 rfl rfl (by decide) (Nat.le_of_ble_eq_true rfl) (Nat.le_of_ble_eq_true rfl) dX4_add_81 hB (fun r G1 hr => ?_)
  obtain ⟨r1, rfl, hE1, hB⟩ := hr
  have hL1 : Lay G1.2.2 := by rw [hE1]; exact hL
  show Ev K mX4_add 2 84 [(0, .ref 28), (1, .int x1), (2, .int x2)] [.int r1] G1 _
  refine E_istore_n (lv' := [(0, .ref 28), (1, .int x1), (2, .int x2), (3, .int r1)]) dX4_add_84 rfl (by decide) rfl ?_
  refine E_aload_n 0 dX4_add_85 rfl rfl rfl ?_
  refine E_gR (j := sR G1 28 1) fG_X4_17 rfl (lo_28 hL1) rfl (lg_28_1 hL1).2.1 dX4_add_86 ?_
  refine E_aload_n 0 dX4_add_89 rfl rfl rfl ?_
  refine E_gI (v := sI G1 28 12) fG_X4_46 rfl (lo_28 hL1) rfl dX4_add_90 ?_
  refine E_aload_n 0 dX4_add_93 rfl rfl rfl ?_
  refine E_gR (j := 29) fG_X4_13 rfl (lo_28 hL1) (lr_28_0 hL1) (by decide) dX4_add_94 ?_
  refine E_iload_n 3 dX4_add_97 rfl rfl ?_
  obtain ⟨qq2, hB⟩ := hB
  refine E_aI (p := Int32.toNatClampNeg r1) (v := sI G1 29 (Int32.toNatClampNeg r1)) (la_29 hL1) qq2 rfl rfl dX4_add_98 ?_
  obtain ⟨qq3, hB⟩ := hB
  refine E_sI (p := Int32.toNatClampNeg (sI G1 28 12)) (lg_28_1 hL1) qq3 rfl dX4_add_99 ?_
  refine E_nmG (fun G4 eG4 => ?_)
  have hB := hB G4 eG4
  have hL4 : Lay G4.2.2 := by rw [eG4]; exact hL1
  refine E_aload_n 0 dX4_add_100 rfl rfl rfl ?_
  refine E_gR (j := 29) fG_X4_13 rfl (lo_28 hL4) (lr_28_0 hL4) (by decide) dX4_add_101 ?_
  refine E_iload_n 3 dX4_add_104 rfl rfl ?_
  refine E_aload_n 0 dX4_add_105 rfl rfl rfl ?_
  refine E_gI (v := sI G4 28 12) fG_X4_46 rfl (lo_28 hL4) rfl dX4_add_106 ?_
  obtain ⟨qq5, hB⟩ := hB
  refine E_sI (p := Int32.toNatClampNeg r1) (la_29 hL4) qq5 rfl dX4_add_109 ?_
  refine E_aload_n 0 dX4_add_110 rfl rfl rfl ?_
  refine E_gR (j := sR G4 28 2) fG_X4_20 rfl (lo_28 hL4) rfl (lg_28_2 hL4).2.1 dX4_add_111 ?_
  refine E_aload_n 0 dX4_add_114 rfl rfl rfl ?_
  refine E_gI (v := sI G4 28 12) fG_X4_46 rfl (lo_28 hL4) rfl dX4_add_115 ?_
  refine E_iload_n 1 dX4_add_118 rfl rfl ?_
  obtain ⟨qq6, hB⟩ := hB
  refine E_sI (p := Int32.toNatClampNeg (sI G4 28 12)) (lg_28_2 hL4) qq6 rfl dX4_add_119 ?_
  refine E_nmG (fun G7 eG7 => ?_)
  have hB := hB G7 eG7
  have hL7 : Lay G7.2.2 := by rw [eG7]; exact hL4
  refine E_aload_n 0 dX4_add_120 rfl rfl rfl ?_
  refine E_gR (j := sR G7 28 3) fG_X4_23 rfl (lo_28 hL7) rfl (lg_28_3 hL7).2.1 dX4_add_121 ?_
  refine E_aload_n 0 dX4_add_124 rfl rfl rfl ?_
  refine E_gI (v := sI G7 28 12) fG_X4_46 rfl (lo_28 hL7) rfl dX4_add_125 ?_
  refine E_iconst (v := 0) dX4_add_128 (by decide) ?_
  obtain ⟨qq8, hB⟩ := hB
  refine E_sI (p := Int32.toNatClampNeg (sI G7 28 12)) (lg_28_3 hL7) qq8 rfl dX4_add_129 ?_
  refine E_nmG (fun G9 eG9 => ?_)
  have hB := hB G9 eG9
  have hL9 : Lay G9.2.2 := by rw [eG9]; exact hL7
  refine E_aload_n 0 dX4_add_130 rfl rfl rfl ?_
  refine E_gR (j := sR G9 28 4) fG_X4_26 rfl (lo_28 hL9) rfl (lg_28_4 hL9).2.1 dX4_add_131 ?_
  refine E_aload_n 0 dX4_add_134 rfl rfl rfl ?_
  refine E_gI (v := sI G9 28 12) fG_X4_46 rfl (lo_28 hL9) rfl dX4_add_135 ?_
  refine E_iload_n 2 dX4_add_138 rfl rfl ?_
  obtain ⟨qq10, hB⟩ := hB
  refine E_sI (p := Int32.toNatClampNeg (sI G9 28 12)) (lg_28_4 hL9) qq10 rfl dX4_add_139 ?_
  refine E_nmG (fun G11 eG11 => ?_)
  have hB := hB G11 eG11
  have hL11 : Lay G11.2.2 := by rw [eG11]; exact hL9
  refine E_aload_n 0 dX4_add_140 rfl rfl rfl ?_
  refine E_dup dX4_add_141 rfl ?_
  refine E_gI (v := sI G11 28 12) fG_X4_46 rfl (lo_28 hL11) rfl dX4_add_142 ?_
  refine E_dup_x1 dX4_add_145 rfl rfl ?_
  refine E_iconst (v := 1) dX4_add_146 (by decide) ?_
  refine E_iadd dX4_add_147 ?_
  refine E_pI fP_X4_46 rfl (lo_28 hL11) dX4_add_148 ?_
  exact E_iret rfl dX4_add_151 ⟨_, rfl, hB⟩

set_option maxRecDepth 20000 in
set_option maxHeartbeats 2000000 in
theorem kX4_fill_0 {K : KT} {G : St} {Q : St → Prop} {h1 : Nat} {x4 : Int32} (hL : Lay G.2.2) (hh1 : h1 = 39 ∨ h1 = 49)
    (hB : EvV K mJ7_fill_53178 0 0 [(0, .ref 29), (1, .int (-1))] [] (uI (uI G 28 12 0) 28 10 (-1)) (fun G1 => (((sI G1 18 17) ≤ (nI (sN G1 (sR G1 28 5))) → EvVa K mX4_fill 3 45 [(0, .ref 28), (1, .ref h1), (2, .ref 5), (3, .ref 18), (4, .int x4), (5, .int 0)] [] G1 Q) ∧ (¬ (sI G1 18 17) ≤ (nI (sN G1 (sR G1 28 5))) → (¬ (2 * (sI G1 18 17)) < 0) ∧ (Int32.toNatClampNeg (2 * (sI G1 18 17))) * componentBytes .int ≤ 536870912 ∧ EvVa K mX4_fill 3 45 [(0, .ref 28), (1, .ref h1), (2, .ref 5), (3, .ref 18), (4, .int x4), (5, .int 0)] [] (uR (uN G1 100 (Int32.toNatClampNeg (2 * (sI G1 18 17)))) 28 5 (nx G1)) Q)))) :
    EvVa K mX4_fill 3 0 [(0, .ref 28), (1, .ref h1), (2, .ref 5), (3, .ref 18), (4, .int x4)] [] G Q := by
  refine E_aload_n 0 dX4_fill_0 rfl rfl rfl ?_
  refine E_iconst (v := 0) dX4_fill_1 (by decide) ?_
  refine E_pI fP_X4_46 rfl (lo_28 hL) dX4_fill_2 ?_
  refine E_aload_n 0 dX4_fill_5 rfl rfl rfl ?_
  refine E_iconst (v := (-1)) dX4_fill_6 (by decide) ?_
  refine E_pI fP_X4_42 rfl (lo_28 hL) dX4_fill_7 ?_
  refine E_aload_n 0 dX4_fill_10 rfl rfl rfl ?_
  refine E_gR (j := 29) fG_X4_13 rfl (lo_28 hL) (lr_28_0 hL) (by decide) dX4_fill_11 ?_
  refine E_iconst (v := (-1)) dX4_fill_14 (by decide) ?_
  refine E_callS (as := [.ref 29, .int (-1)]) (st := []) cm_J7_fill_53178 cS_X4_49 rfl rfl (by decide) (Nat.le_of_ble_eq_true rfl) (Nat.le_of_ble_eq_true rfl) dX4_fill_15 hB (fun r G1 hr => ?_)
  obtain ⟨rfl, hE1, hB⟩ := hr
  have hL1 : Lay G1.2.2 := by rw [hE1]; exact hL
  show Ev K mX4_fill 3 18 [(0, .ref 28), (1, .ref h1), (2, .ref 5), (3, .ref 18), (4, .int x4)] [] G1 _
  refine E_aload_n 0 dX4_fill_18 rfl rfl rfl ?_
  refine E_gR (j := sR G1 28 5) fG_X4_29 rfl (lo_28 hL1) rfl (lg_28_5 hL1).2.1 dX4_fill_19 ?_
  refine E_len (v := nI (sN G1 (sR G1 28 5))) (lg_28_5 hL1) (by decide) rfl dX4_fill_22 ?_
  refine E_aload_n 3 dX4_fill_23 rfl rfl rfl ?_
  refine E_gI (v := sI G1 18 17) fG_X4_55 rfl (lo_18 hL1) rfl dX4_fill_24 ?_
  refine E_icmp_ge (tgt := 42) dX4_fill_27 (by decide) (fun c => ?_) (fun c => ?_)
  · have hB := hB.1 c
    refine E_iconst (v := 0) dX4_fill_42 (by decide) ?_
    refine E_istore (lv' := [(0, .ref 28), (1, .ref h1), (2, .ref 5), (3, .ref 18), (4, .int x4), (5, .int 0)]) dX4_fill_43 (by decide) rfl ?_
    exact hB
  · have hB := hB.2 c
    refine E_aload_n 0 dX4_fill_30 rfl rfl rfl ?_
    refine E_iconst (v := 2) dX4_fill_31 (by decide) ?_
    refine E_aload_n 3 dX4_fill_32 rfl rfl rfl ?_
    refine E_gI (v := sI G1 18 17) fG_X4_55 rfl (lo_18 hL1) rfl dX4_fill_33 ?_
    refine E_imul dX4_fill_36 ?_
    obtain ⟨qq2, hB⟩ := hB
    obtain ⟨qq3, hB⟩ := hB
    refine E_newa (atype := .int) (ty := .int) (t := 0) (N := Int32.toNatClampNeg (2 * (sI G1 18 17))) tm_103 rfl (Or.inl ⟨rfl, rfl⟩) qq2 rfl qq3 dX4_fill_37 ?_
    refine E_pR fP_X4_29 rfl (ob_uN (lo_28 hL1)) (nx_pos hL1) dX4_fill_39 ?_
    refine E_iconst (v := 0) dX4_fill_42 (by decide) ?_
    refine E_istore (lv' := [(0, .ref 28), (1, .ref h1), (2, .ref 5), (3, .ref 18), (4, .int x4), (5, .int 0)]) dX4_fill_43 (by decide) rfl ?_
    exact hB

set_option maxRecDepth 20000 in
set_option maxHeartbeats 2000000 in
theorem kX4_fill_45 {K : KT} {G : St} {Q : St → Prop} {h1 : Nat} {x4 : Int32} {x5 : Int32} (hL : Lay G.2.2) (hh1 : h1 = 39 ∨ h1 = 49)
    (hB : (((sI G 18 17) ≤ x5 → Q G) ∧ (¬ (sI G 18 17) ≤ x5 → EvI K mX6_setOf 1 0 [(0, .ref 18), (1, .int x5)] [] G (fun r1 G1 => EvI K mX4_shapeOf 2 0 [(0, .ref h1), (1, .ref 5), (2, .int r1), (3, .int x4)] [] G1 (fun r2 G2 => EvI K mX4_find 2 0 [(0, .ref 28), (1, .int r2)] [] G2 (fun r3 G3 => ((¬ r3 = (-1) → EvVa K mX4_fill 3 93 [(0, .ref 28), (1, .ref h1), (2, .ref 5), (3, .ref 18), (4, .int x4), (5, .int x5), (7, .int r3)] [] G3 Q) ∧ (r3 = (-1) → EvIa K mX4_add 2 0 [(0, .ref 28), (1, .int r2), (2, .int x5)] [] G3 (fun r4 G4 => Lay G4.2.2 ∧ EvVa K mX4_fill 3 93 [(0, .ref 28), (1, .ref h1), (2, .ref 5), (3, .ref 18), (4, .int x4), (5, .int x5), (7, .int r4)] [] G4 Q))))))))) :
    EvVa K mX4_fill 3 45 [(0, .ref 28), (1, .ref h1), (2, .ref 5), (3, .ref 18), (4, .int x4), (5, .int x5)] [] G Q := by
  refine E_iload 5 dX4_fill_45 rfl ?_
  refine E_aload_n 3 dX4_fill_47 rfl rfl rfl ?_
  refine E_gI (v := sI G 18 17) fG_X4_55 rfl (lo_18 hL) rfl dX4_fill_48 ?_
  refine E_icmp_ge (tgt := 119) dX4_fill_51 (by decide) (fun c => ?_) (fun c => ?_)
  · have hB := hB.1 c
    exact E_vret rfl dX4_fill_119 ⟨rfl, hB⟩
  · have hB := hB.2 c
    refine E_aload_n 1 dX4_fill_54 rfl rfl rfl ?_
    refine E_aload_n 2 dX4_fill_55 rfl rfl rfl ?_
    refine E_aload_n 3 dX4_fill_56 rfl rfl rfl ?_
    refine E_iload 5 dX4_fill_57 rfl ?_
    refine E_cV (ci := 6) (as := [.int x5]) (st := [.ref 5, .ref h1]) cm_X6_setOf cV_X4_60 ⟨_, _, rfl⟩ (by decide) (lo_18 hL) rfl rfl (by decide) (Nat.le_of_ble_eq_true rfl) (Nat.le_of_ble_eq_true rfl) dX4_fill_59 hB (fun r G1 hr => ?_)
    obtain ⟨r1, rfl, hE1, hB⟩ := hr
    have hL1 : Lay G1.2.2 := by rw [hE1]; exact hL
    show Ev K mX4_fill 3 62 [(0, .ref 28), (1, .ref h1), (2, .ref 5), (3, .ref 18), (4, .int x4), (5, .int x5)] [.int r1, .ref 5, .ref h1] G1 _
    refine E_iload 4 dX4_fill_62 rfl ?_
    refine E_callS (as := [.ref h1, .ref 5, .int r1, .int x4]) (st := []) cm_X4_shapeOf cS_X4_64 rfl rfl (by decide) (Nat.le_of_ble_eq_true rfl) (Nat.le_of_ble_eq_true rfl) dX4_fill_64 hB (fun r G2 hr => ?_)
    obtain ⟨r2, rfl, hE2, hB⟩ := hr
    have hL2 : Lay G2.2.2 := by rw [hE2]; exact hL1
    show Ev K mX4_fill 3 67 [(0, .ref 28), (1, .ref h1), (2, .ref 5), (3, .ref 18), (4, .int x4), (5, .int x5)] [.int r2] G2 _
    refine E_istore (lv' := [(0, .ref 28), (1, .ref h1), (2, .ref 5), (3, .ref 18), (4, .int x4), (5, .int x5), (6, .int r2)]) dX4_fill_67 (by decide) rfl ?_
    refine E_aload_n 0 dX4_fill_69 rfl rfl rfl ?_
    refine E_iload 6 dX4_fill_70 rfl ?_
    refine E_cV (ci := 4) (as := [.int r2]) (st := []) cm_X4_find cV_X4_68 ⟨_, _, rfl⟩ (by decide) (lo_28 hL2) rfl rfl (by decide) (Nat.le_of_ble_eq_true rfl) (Nat.le_of_ble_eq_true rfl) dX4_fill_72 hB (fun r G3 hr => ?_)
    obtain ⟨r3, rfl, hE3, hB⟩ := hr
    have hL3 : Lay G3.2.2 := by rw [hE3]; exact hL2
    show Ev K mX4_fill 3 75 [(0, .ref 28), (1, .ref h1), (2, .ref 5), (3, .ref 18), (4, .int x4), (5, .int x5), (6, .int r2)] [.int r3] G3 _
    refine E_istore (lv' := [(0, .ref 28), (1, .ref h1), (2, .ref 5), (3, .ref 18), (4, .int x4), (5, .int x5), (6, .int r2), (7, .int r3)]) dX4_fill_75 (by decide) rfl ?_
    refine E_iload 7 dX4_fill_77 rfl ?_
    refine E_iconst (v := (-1)) dX4_fill_79 (by decide) ?_
    refine E_icmp_ne (tgt := 93) dX4_fill_80 (by decide) (fun c => ?_) (fun c => ?_)
    · have hB := hB.1 c
      refine E_sub (lv' := [(0, .ref 28), (1, .ref h1), (2, .ref 5), (3, .ref 18), (4, .int x4), (5, .int x5), (7, .int r3)]) [0, 1, 2, 3, 4, 5, 7] rfl ?_
      exact hB
    · have hB := hB.2 c
      refine E_aload_n 0 dX4_fill_83 rfl rfl rfl ?_
      refine E_iload 6 dX4_fill_84 rfl ?_
      refine E_iload 5 dX4_fill_86 rfl ?_
      refine E_cV (ci := 4) (as := [.int r2, .int x5]) (st := []) cm_X4_add cV_X4_71 ⟨_, _, rfl⟩ (by decide) (lo_28 hL3) rfl rfl (by decide) (Nat.le_of_ble_eq_true rfl) (Nat.le_of_ble_eq_true rfl) dX4_fill_88 hB (fun r G4 hr => ?_)
      obtain ⟨r4, rfl, hL4, hB⟩ := hr
      show Ev K mX4_fill 3 91 [(0, .ref 28), (1, .ref h1), (2, .ref 5), (3, .ref 18), (4, .int x4), (5, .int x5), (6, .int r2), (7, .int r3)] [.int r4] G4 _
      refine E_istore (lv' := [(0, .ref 28), (1, .ref h1), (2, .ref 5), (3, .ref 18), (4, .int x4), (5, .int x5), (6, .int r2), (7, .int r4)]) dX4_fill_91 (by decide) rfl ?_
      refine E_sub (lv' := [(0, .ref 28), (1, .ref h1), (2, .ref 5), (3, .ref 18), (4, .int x4), (5, .int x5), (7, .int r4)]) [0, 1, 2, 3, 4, 5, 7] rfl ?_
      exact hB

set_option maxRecDepth 20000 in
set_option maxHeartbeats 2000000 in
theorem kX4_fill_93 {K : KT} {G : St} {Q : St → Prop} {h1 : Nat} {x4 : Int32} {x5 : Int32} {x7 : Int32} (hL : Lay G.2.2) (hh1 : h1 = 39 ∨ h1 = 49)
    (hB : vp_in x7 (sN G (sR G 28 3)) ∧ vp_in x7 (sN G (sR G 28 3)) ∧ ∀ G3 : St, G3 = (uI G (sR G 28 3) (Int32.toNatClampNeg x7) ((sI G (sR G 28 3) (Int32.toNatClampNeg x7)) + 1)) → vp_in x5 (sN G3 (sR G3 28 5)) ∧ ∀ G5 : St, G5 = (uI G3 (sR G3 28 5) (Int32.toNatClampNeg x5) x7) → EvVa K mX4_fill 3 45 [(0, .ref 28), (1, .ref h1), (2, .ref 5), (3, .ref 18), (4, .int x4), (5, .int (x5 + 1))] [] G5 Q) :
    EvVa K mX4_fill 3 93 [(0, .ref 28), (1, .ref h1), (2, .ref 5), (3, .ref 18), (4, .int x4), (5, .int x5), (7, .int x7)] [] G Q := by
  refine E_aload_n 0 dX4_fill_93 rfl rfl rfl ?_
  refine E_gR (j := sR G 28 3) fG_X4_23 rfl (lo_28 hL) rfl (lg_28_3 hL).2.1 dX4_fill_94 ?_
  refine E_iload 6 dX4_fill_97 rfl ?_
  refine E_dup2 dX4_fill_99 rfl rfl ?_
  obtain ⟨qq1, hB⟩ := hB
  refine E_aI (p := Int32.toNatClampNeg x7) (v := sI G (sR G 28 3) (Int32.toNatClampNeg x7)) (lg_28_3 hL) qq1 rfl rfl dX4_fill_100 ?_
  refine E_iconst (v := 1) dX4_fill_101 (by decide) ?_
  refine E_iadd dX4_fill_102 ?_
  obtain ⟨qq2, hB⟩ := hB
  refine E_sI (p := Int32.toNatClampNeg x7) (lg_28_3 hL) qq2 rfl dX4_fill_103 ?_
  refine E_nmG (fun G3 eG3 => ?_)
  have hB := hB G3 eG3
  have hL3 : Lay G3.2.2 := by rw [eG3]; exact hL
  refine E_aload_n 0 dX4_fill_104 rfl rfl rfl ?_
  refine E_gR (j := sR G3 28 5) fG_X4_29 rfl (lo_28 hL3) rfl (lg_28_5 hL3).2.1 dX4_fill_105 ?_
  refine E_iload 5 dX4_fill_108 rfl ?_
  refine E_iload 6 dX4_fill_110 rfl ?_
  obtain ⟨qq4, hB⟩ := hB
  refine E_sI (p := Int32.toNatClampNeg x5) (lg_28_5 hL3) qq4 rfl dX4_fill_112 ?_
  refine E_nmG (fun G5 eG5 => ?_)
  have hB := hB G5 eG5
  have hL5 : Lay G5.2.2 := by rw [eG5]; exact hL3
  refine E_iinc (v := x5 + 1) (lv' := [(0, .ref 28), (1, .ref h1), (2, .ref 5), (3, .ref 18), (4, .int x4), (5, .int (x5 + 1)), (7, .int x7)]) 5 dX4_fill_113 rfl rfl (by decide) rfl ?_
  refine E_goto (tgt := 45) dX4_fill_116 (by decide) ?_
  refine E_sub (lv' := [(0, .ref 28), (1, .ref h1), (2, .ref 5), (3, .ref 18), (4, .int x4), (5, .int (x5 + 1))]) [0, 1, 2, 3, 4, 5] rfl ?_
  exact hB

set_option maxRecDepth 20000 in
set_option maxHeartbeats 2000000 in
theorem kX4_has_0 {K : KT} {G : St} {Q : Int32 → St → Prop} {x1 : Int32} (hL : Lay G.2.2) 
    (hB : ((x1 < 0 → Q 0 G) ∧ (¬ x1 < 0 → (((sI G 28 12) ≤ x1 → Q 0 G) ∧ (¬ (sI G 28 12) ≤ x1 → Q 1 G))))) :
    EvI K mX4_has 0 0 [(0, .ref 28), (1, .int x1)] [] G Q := by
  refine E_iload_n 1 dX4_has_0 rfl rfl ?_
  refine E_if_lt (tgt := 16) dX4_has_1 (by decide) (fun c => ?_) (fun c => ?_)
  · have hB := hB.1 c
    refine E_iconst (v := 0) dX4_has_16 (by decide) ?_
    exact E_zret rfl (Or.inl rfl) dX4_has_17 ⟨_, rfl, rfl, hB⟩
  · have hB := hB.2 c
    refine E_iload_n 1 dX4_has_4 rfl rfl ?_
    refine E_aload_n 0 dX4_has_5 rfl rfl rfl ?_
    refine E_gI (v := sI G 28 12) fG_X4_46 rfl (lo_28 hL) rfl dX4_has_6 ?_
    refine E_icmp_ge (tgt := 16) dX4_has_9 (by decide) (fun c => ?_) (fun c => ?_)
    · have hB := hB.1 c
      refine E_iconst (v := 0) dX4_has_16 (by decide) ?_
      exact E_zret rfl (Or.inl rfl) dX4_has_17 ⟨_, rfl, rfl, hB⟩
    · have hB := hB.2 c
      refine E_iconst (v := 1) dX4_has_12 (by decide) ?_
      refine E_goto (tgt := 17) dX4_has_13 (by decide) ?_
      exact E_zret rfl (Or.inr rfl) dX4_has_17 ⟨_, rfl, rfl, hB⟩

set_option maxRecDepth 20000 in
set_option maxHeartbeats 2000000 in
theorem kX4_ofJoining_0 {K : KT} {G : St} {Q : Int32 → St → Prop} {x1 : Int32} (hL : Lay G.2.2) 
    (hB : ((x1 < 0 → Q (-1) G) ∧ (¬ x1 < 0 → (((nI (sN G (sR G 28 5))) ≤ x1 → Q (-1) G) ∧ (¬ (nI (sN G (sR G 28 5))) ≤ x1 → vp_in x1 (sN G (sR G 28 5)) ∧ Q (sI G (sR G 28 5) (Int32.toNatClampNeg x1)) G))))) :
    EvI K mX4_ofJoining 0 0 [(0, .ref 28), (1, .int x1)] [] G Q := by
  refine E_iload_n 1 dX4_ofJoining_0 rfl rfl ?_
  refine E_if_lt (tgt := 22) dX4_ofJoining_1 (by decide) (fun c => ?_) (fun c => ?_)
  · have hB := hB.1 c
    refine E_iconst (v := (-1)) dX4_ofJoining_22 (by decide) ?_
    exact E_iret rfl dX4_ofJoining_23 ⟨_, rfl, rfl, hB⟩
  · have hB := hB.2 c
    refine E_iload_n 1 dX4_ofJoining_4 rfl rfl ?_
    refine E_aload_n 0 dX4_ofJoining_5 rfl rfl rfl ?_
    refine E_gR (j := sR G 28 5) fG_X4_29 rfl (lo_28 hL) rfl (lg_28_5 hL).2.1 dX4_ofJoining_6 ?_
    refine E_len (v := nI (sN G (sR G 28 5))) (lg_28_5 hL) (by decide) rfl dX4_ofJoining_9 ?_
    refine E_icmp_ge (tgt := 22) dX4_ofJoining_10 (by decide) (fun c => ?_) (fun c => ?_)
    · have hB := hB.1 c
      refine E_iconst (v := (-1)) dX4_ofJoining_22 (by decide) ?_
      exact E_iret rfl dX4_ofJoining_23 ⟨_, rfl, rfl, hB⟩
    · have hB := hB.2 c
      refine E_aload_n 0 dX4_ofJoining_13 rfl rfl rfl ?_
      refine E_gR (j := sR G 28 5) fG_X4_29 rfl (lo_28 hL) rfl (lg_28_5 hL).2.1 dX4_ofJoining_14 ?_
      refine E_iload_n 1 dX4_ofJoining_17 rfl rfl ?_
      obtain ⟨qq1, hB⟩ := hB
      refine E_aI (p := Int32.toNatClampNeg x1) (v := sI G (sR G 28 5) (Int32.toNatClampNeg x1)) (lg_28_5 hL) qq1 rfl rfl dX4_ofJoining_18 ?_
      refine E_goto (tgt := 23) dX4_ofJoining_19 (by decide) ?_
      exact E_iret rfl dX4_ofJoining_23 ⟨_, rfl, rfl, hB⟩

set_option maxRecDepth 20000 in
set_option maxHeartbeats 2000000 in
theorem kX4_joiningsOf_0 {K : KT} {G : St} {Q : Int32 → St → Prop} {x1 : Int32} (hL : Lay G.2.2) 
    (hB : EvI K mX4_has 0 0 [(0, .ref 28), (1, .int x1)] [] G (fun r1 G1 => ((r1 = 0 → Q (-1) G1) ∧ (¬ r1 = 0 → vp_in x1 (sN G1 (sR G1 28 3)) ∧ Q (sI G1 (sR G1 28 3) (Int32.toNatClampNeg x1)) G1)))) :
    EvI K mX4_joiningsOf 1 0 [(0, .ref 28), (1, .int x1)] [] G Q := by
  refine E_aload_n 0 dX4_joiningsOf_0 rfl rfl rfl ?_
  refine E_iload_n 1 dX4_joiningsOf_1 rfl rfl ?_
  refine E_cV (ci := 4) (as := [.int x1]) (st := []) cm_X4_has cV_X4_114 ⟨_, _, rfl⟩ (by decide) (lo_28 hL) rfl rfl (by decide) (Nat.le_of_ble_eq_true rfl) (Nat.le_of_ble_eq_true rfl) dX4_joiningsOf_2 hB (fun r G1 hr => ?_)
  obtain ⟨r1, rfl, hE1, hB⟩ := hr
  have hL1 : Lay G1.2.2 := by rw [hE1]; exact hL
  have hE1 : G1.2.2 = G.2.2 := hE1
  show Ev K mX4_joiningsOf 1 5 [(0, .ref 28), (1, .int x1)] [.int r1] G1 _
  refine E_if_eq (tgt := 17) dX4_joiningsOf_5 (by decide) (fun c => ?_) (fun c => ?_)
  · have hB := hB.1 c
    refine E_iconst (v := (-1)) dX4_joiningsOf_17 (by decide) ?_
    exact E_iret rfl dX4_joiningsOf_18 ⟨_, rfl, hE1, hB⟩
  · have hB := hB.2 c
    refine E_aload_n 0 dX4_joiningsOf_8 rfl rfl rfl ?_
    refine E_gR (j := sR G1 28 3) fG_X4_23 rfl (lo_28 hL1) rfl (lg_28_3 hL1).2.1 dX4_joiningsOf_9 ?_
    refine E_iload_n 1 dX4_joiningsOf_12 rfl rfl ?_
    obtain ⟨qq2, hB⟩ := hB
    refine E_aI (p := Int32.toNatClampNeg x1) (v := sI G1 (sR G1 28 3) (Int32.toNatClampNeg x1)) (lg_28_3 hL1) qq2 rfl rfl dX4_joiningsOf_13 ?_
    refine E_goto (tgt := 18) dX4_joiningsOf_14 (by decide) ?_
    exact E_iret rfl dX4_joiningsOf_18 ⟨_, rfl, hE1, hB⟩

set_option maxRecDepth 20000 in
set_option maxHeartbeats 2000000 in
theorem kX4_firstOf_0 {K : KT} {G : St} {Q : Int32 → St → Prop} {x1 : Int32} (hL : Lay G.2.2) 
    (hB : EvI K mX4_has 0 0 [(0, .ref 28), (1, .int x1)] [] G (fun r1 G1 => ((r1 = 0 → Q (-1) G1) ∧ (¬ r1 = 0 → vp_in x1 (sN G1 (sR G1 28 4)) ∧ Q (sI G1 (sR G1 28 4) (Int32.toNatClampNeg x1)) G1)))) :
    EvI K mX4_firstOf 1 0 [(0, .ref 28), (1, .int x1)] [] G Q := by
  refine E_aload_n 0 dX4_firstOf_0 rfl rfl rfl ?_
  refine E_iload_n 1 dX4_firstOf_1 rfl rfl ?_
  refine E_cV (ci := 4) (as := [.int x1]) (st := []) cm_X4_has cV_X4_114 ⟨_, _, rfl⟩ (by decide) (lo_28 hL) rfl rfl (by decide) (Nat.le_of_ble_eq_true rfl) (Nat.le_of_ble_eq_true rfl) dX4_firstOf_2 hB (fun r G1 hr => ?_)
  obtain ⟨r1, rfl, hE1, hB⟩ := hr
  have hL1 : Lay G1.2.2 := by rw [hE1]; exact hL
  have hE1 : G1.2.2 = G.2.2 := hE1
  show Ev K mX4_firstOf 1 5 [(0, .ref 28), (1, .int x1)] [.int r1] G1 _
  refine E_if_eq (tgt := 17) dX4_firstOf_5 (by decide) (fun c => ?_) (fun c => ?_)
  · have hB := hB.1 c
    refine E_iconst (v := (-1)) dX4_firstOf_17 (by decide) ?_
    exact E_iret rfl dX4_firstOf_18 ⟨_, rfl, hE1, hB⟩
  · have hB := hB.2 c
    refine E_aload_n 0 dX4_firstOf_8 rfl rfl rfl ?_
    refine E_gR (j := sR G1 28 4) fG_X4_26 rfl (lo_28 hL1) rfl (lg_28_4 hL1).2.1 dX4_firstOf_9 ?_
    refine E_iload_n 1 dX4_firstOf_12 rfl rfl ?_
    obtain ⟨qq2, hB⟩ := hB
    refine E_aI (p := Int32.toNatClampNeg x1) (v := sI G1 (sR G1 28 4) (Int32.toNatClampNeg x1)) (lg_28_4 hL1) qq2 rfl rfl dX4_firstOf_13 ?_
    refine E_goto (tgt := 18) dX4_firstOf_14 (by decide) ?_
    exact E_iret rfl dX4_firstOf_18 ⟨_, rfl, hE1, hB⟩

set_option maxRecDepth 20000 in
set_option maxHeartbeats 2000000 in
theorem kX4_chosenPlace_0 {K : KT} {G : St} {Q : Int32 → St → Prop} {x1 : Int32} (hL : Lay G.2.2) 
    (hB : EvI K mX4_has 0 0 [(0, .ref 28), (1, .int x1)] [] G (fun r1 G1 => ((r1 = 0 → EvI K mX4_chosenPlace 1 25 [(0, .ref 28), (2, .int 0), (3, .int 0)] [] G1 Q) ∧ (¬ r1 = 0 → vp_in x1 (sN G1 (sR G1 28 2)) ∧ EvI K mX4_chosenPlace 1 25 [(0, .ref 28), (2, .int ((sI G1 (sR G1 28 2) (Int32.toNatClampNeg x1)) &&& 32767)), (3, .int 0)] [] G1 Q)))) :
    EvI K mX4_chosenPlace 1 0 [(0, .ref 28), (1, .int x1)] [] G Q := by
  refine E_aload_n 0 dX4_chosenPlace_0 rfl rfl rfl ?_
  refine E_iload_n 1 dX4_chosenPlace_1 rfl rfl ?_
  refine E_cV (ci := 4) (as := [.int x1]) (st := []) cm_X4_has cV_X4_114 ⟨_, _, rfl⟩ (by decide) (lo_28 hL) rfl rfl (by decide) (Nat.le_of_ble_eq_true rfl) (Nat.le_of_ble_eq_true rfl) dX4_chosenPlace_2 hB (fun r G1 hr => ?_)
  obtain ⟨r1, rfl, hE1, hB⟩ := hr
  have hL1 : Lay G1.2.2 := by rw [hE1]; exact hL
  have hE1 : G1.2.2 = G.2.2 := hE1
  show Ev K mX4_chosenPlace 1 5 [(0, .ref 28), (1, .int x1)] [.int r1] G1 _
  refine E_if_eq (tgt := 21) dX4_chosenPlace_5 (by decide) (fun c => ?_) (fun c => ?_)
  · have hB := hB.1 c
    refine E_iconst (v := 0) dX4_chosenPlace_21 (by decide) ?_
    refine E_istore_n (lv' := [(0, .ref 28), (1, .int x1), (2, .int 0)]) dX4_chosenPlace_22 rfl (by decide) rfl ?_
    refine E_iconst (v := 0) dX4_chosenPlace_23 (by decide) ?_
    refine E_istore_n (lv' := [(0, .ref 28), (1, .int x1), (2, .int 0), (3, .int 0)]) dX4_chosenPlace_24 rfl (by decide) rfl ?_
    refine E_sub (lv' := [(0, .ref 28), (2, .int 0), (3, .int 0)]) [0, 2, 3] rfl ?_
    exact EvI.tr hB hE1
  · have hB := hB.2 c
    refine E_aload_n 0 dX4_chosenPlace_8 rfl rfl rfl ?_
    refine E_gR (j := sR G1 28 2) fG_X4_20 rfl (lo_28 hL1) rfl (lg_28_2 hL1).2.1 dX4_chosenPlace_9 ?_
    refine E_iload_n 1 dX4_chosenPlace_12 rfl rfl ?_
    obtain ⟨qq2, hB⟩ := hB
    refine E_aI (p := Int32.toNatClampNeg x1) (v := sI G1 (sR G1 28 2) (Int32.toNatClampNeg x1)) (lg_28_2 hL1) qq2 rfl rfl dX4_chosenPlace_13 ?_
    refine E_sipush (v := 32767) dX4_chosenPlace_14 (by decide) ?_
    refine E_iand dX4_chosenPlace_17 ?_
    refine E_goto (tgt := 22) dX4_chosenPlace_18 (by decide) ?_
    refine E_istore_n (lv' := [(0, .ref 28), (1, .int x1), (2, .int ((sI G1 (sR G1 28 2) (Int32.toNatClampNeg x1)) &&& 32767))]) dX4_chosenPlace_22 rfl (by decide) rfl ?_
    refine E_iconst (v := 0) dX4_chosenPlace_23 (by decide) ?_
    refine E_istore_n (lv' := [(0, .ref 28), (1, .int x1), (2, .int ((sI G1 (sR G1 28 2) (Int32.toNatClampNeg x1)) &&& 32767)), (3, .int 0)]) dX4_chosenPlace_24 rfl (by decide) rfl ?_
    refine E_sub (lv' := [(0, .ref 28), (2, .int ((sI G1 (sR G1 28 2) (Int32.toNatClampNeg x1)) &&& 32767)), (3, .int 0)]) [0, 2, 3] rfl ?_
    exact EvI.tr hB hE1

set_option maxRecDepth 20000 in
set_option maxHeartbeats 2000000 in
theorem kX4_chosenPlace_25 {K : KT} {G : St} {Q : Int32 → St → Prop} {x2 : Int32} {x3 : Int32} (hL : Lay G.2.2) 
    (hB : (((sI G 28 11) ≤ x3 → Q x3 G) ∧ (¬ (sI G 28 11) ≤ x3 → vp_in x3 251 ∧ (((sI G 35 (Int32.toNatClampNeg x3)) = x2 → Q x3 G) ∧ (¬ (sI G 35 (Int32.toNatClampNeg x3)) = x2 → EvI K mX4_chosenPlace 1 25 [(0, .ref 28), (2, .int x2), (3, .int (x3 + 1))] [] G Q))))) :
    EvI K mX4_chosenPlace 1 25 [(0, .ref 28), (2, .int x2), (3, .int x3)] [] G Q := by
  refine E_iload_n 2 dX4_chosenPlace_25 rfl rfl ?_
  refine E_aload_n 0 dX4_chosenPlace_26 rfl rfl rfl ?_
  refine E_gI (v := sI G 28 11) fG_X4_120 rfl (lo_28 hL) rfl dX4_chosenPlace_27 ?_
  refine E_icmp_ge (tgt := 49) dX4_chosenPlace_30 (by decide) (fun c => ?_) (fun c => ?_)
  · have hB := hB.1 c
    refine E_iload_n 2 dX4_chosenPlace_49 rfl rfl ?_
    exact E_iret rfl dX4_chosenPlace_50 ⟨_, rfl, rfl, hB⟩
  · have hB := hB.2 c
    refine E_aload_n 0 dX4_chosenPlace_33 rfl rfl rfl ?_
    refine E_gR (j := 35) fG_X4_32 rfl (lo_28 hL) (lr_28_6 hL) (by decide) dX4_chosenPlace_34 ?_
    refine E_iload_n 2 dX4_chosenPlace_37 rfl rfl ?_
    obtain ⟨qq1, hB⟩ := hB
    refine E_aI (p := Int32.toNatClampNeg x3) (v := sI G 35 (Int32.toNatClampNeg x3)) (la_35 hL) qq1 rfl rfl dX4_chosenPlace_38 ?_
    refine E_iload_n 1 dX4_chosenPlace_39 rfl rfl ?_
    refine E_icmp_eq (tgt := 49) dX4_chosenPlace_40 (by decide) (fun c => ?_) (fun c => ?_)
    · have hB := hB.1 c
      refine E_iload_n 2 dX4_chosenPlace_49 rfl rfl ?_
      exact E_iret rfl dX4_chosenPlace_50 ⟨_, rfl, rfl, hB⟩
    · have hB := hB.2 c
      refine E_iinc (v := x3 + 1) (lv' := [(0, .ref 28), (2, .int x2), (3, .int (x3 + 1))]) 2 dX4_chosenPlace_43 rfl rfl (by decide) rfl ?_
      refine E_goto (tgt := 25) dX4_chosenPlace_46 (by decide) ?_
      exact EvI.tr hB rfl

set_option maxRecDepth 20000 in
set_option maxHeartbeats 2000000 in
theorem kX4_chosenOf_0 {K : KT} {G : St} {Q : Int32 → St → Prop} {x1 : Int32} (hL : Lay G.2.2) 
    (hB : EvI K mX4_chosenPlace 1 0 [(0, .ref 28), (1, .int x1)] [] G (fun r1 G1 => (((sI G1 28 11) ≤ r1 → Q 0 G1) ∧ (¬ (sI G1 28 11) ≤ r1 → vp_in r1 251 ∧ Q (sI G1 36 (Int32.toNatClampNeg r1)) G1)))) :
    EvI K mX4_chosenOf 2 0 [(0, .ref 28), (1, .int x1)] [] G Q := by
  refine E_aload_n 0 dX4_chosenOf_0 rfl rfl rfl ?_
  refine E_iload_n 1 dX4_chosenOf_1 rfl rfl ?_
  refine E_cV (ci := 4) (as := [.int x1]) (st := []) cm_X4_chosenPlace cV_X4_117 ⟨_, _, rfl⟩ (by decide) (lo_28 hL) rfl rfl (by decide) (Nat.le_of_ble_eq_true rfl) (Nat.le_of_ble_eq_true rfl) dX4_chosenOf_2 hB (fun r G1 hr => ?_)
  obtain ⟨r1, rfl, hE1, hB⟩ := hr
  have hL1 : Lay G1.2.2 := by rw [hE1]; exact hL
  have hE1 : G1.2.2 = G.2.2 := hE1
  show Ev K mX4_chosenOf 2 5 [(0, .ref 28), (1, .int x1)] [.int r1] G1 _
  refine E_istore_n (lv' := [(0, .ref 28), (1, .int x1), (2, .int r1)]) dX4_chosenOf_5 rfl (by decide) rfl ?_
  refine E_iload_n 2 dX4_chosenOf_6 rfl rfl ?_
  refine E_aload_n 0 dX4_chosenOf_7 rfl rfl rfl ?_
  refine E_gI (v := sI G1 28 11) fG_X4_120 rfl (lo_28 hL1) rfl dX4_chosenOf_8 ?_
  refine E_icmp_ge (tgt := 23) dX4_chosenOf_11 (by decide) (fun c => ?_) (fun c => ?_)
  · have hB := hB.1 c
    refine E_iconst (v := 0) dX4_chosenOf_23 (by decide) ?_
    exact E_iret rfl dX4_chosenOf_24 ⟨_, rfl, hE1, hB⟩
  · have hB := hB.2 c
    refine E_aload_n 0 dX4_chosenOf_14 rfl rfl rfl ?_
    refine E_gR (j := 36) fG_X4_35 rfl (lo_28 hL1) (lr_28_7 hL1) (by decide) dX4_chosenOf_15 ?_
    refine E_iload_n 2 dX4_chosenOf_18 rfl rfl ?_
    obtain ⟨qq2, hB⟩ := hB
    refine E_aI (p := Int32.toNatClampNeg r1) (v := sI G1 36 (Int32.toNatClampNeg r1)) (la_36 hL1) qq2 rfl rfl dX4_chosenOf_19 ?_
    refine E_goto (tgt := 24) dX4_chosenOf_20 (by decide) ?_
    exact E_iret rfl dX4_chosenOf_24 ⟨_, rfl, hE1, hB⟩

set_option maxRecDepth 20000 in
set_option maxHeartbeats 2000000 in
theorem kX4_chooseOne_0 {K : KT} {G : St} {Q : Int32 → St → Prop} {x1 : Int32} (hL : Lay G.2.2) 
    (hB : EvI K mX4_chosenPlace 1 0 [(0, .ref 28), (1, .int x1)] [] G (fun r1 G1 => ((r1 < 251 → ((¬ r1 = (sI G1 28 11) → EvI K mX4_chooseOne 2 56 [(0, .ref 28), (2, .int r1)] [] G1 Q) ∧ (r1 = (sI G1 28 11) → vp_in x1 (sN G1 (sR G1 28 2)) ∧ vp_in r1 251 ∧ vp_in r1 251 ∧ EvI K mX4_chooseOne 2 56 [(0, .ref 28), (2, .int r1)] [] (uI (uI (uI G1 35 (Int32.toNatClampNeg r1) ((sI G1 (sR G1 28 2) (Int32.toNatClampNeg x1)) &&& 32767)) 36 (Int32.toNatClampNeg r1) 0) 28 11 ((sI G1 28 11) + 1)) Q))) ∧ (¬ r1 < 251 → Q (-1) G1)))) :
    EvI K mX4_chooseOne 2 0 [(0, .ref 28), (1, .int x1)] [] G Q := by
  refine E_aload_n 0 dX4_chooseOne_0 rfl rfl rfl ?_
  refine E_iload_n 1 dX4_chooseOne_1 rfl rfl ?_
  refine E_cV (ci := 4) (as := [.int x1]) (st := []) cm_X4_chosenPlace cV_X4_117 ⟨_, _, rfl⟩ (by decide) (lo_28 hL) rfl rfl (by decide) (Nat.le_of_ble_eq_true rfl) (Nat.le_of_ble_eq_true rfl) dX4_chooseOne_2 hB (fun r G1 hr => ?_)
  obtain ⟨r1, rfl, hE1, hB⟩ := hr
  have hL1 : Lay G1.2.2 := by rw [hE1]; exact hL
  have hE1 : G1.2.2 = G.2.2 := hE1
  show Ev K mX4_chooseOne 2 5 [(0, .ref 28), (1, .int x1)] [.int r1] G1 _
  refine E_istore_n (lv' := [(0, .ref 28), (1, .int x1), (2, .int r1)]) dX4_chooseOne_5 rfl (by decide) rfl ?_
  refine E_iload_n 2 dX4_chooseOne_6 rfl rfl ?_
  refine E_sipush (v := 251) dX4_chooseOne_7 (by decide) ?_
  refine E_icmp_lt (tgt := 15) dX4_chooseOne_10 (by decide) (fun c => ?_) (fun c => ?_)
  · have hB := hB.1 c
    refine E_iload_n 2 dX4_chooseOne_15 rfl rfl ?_
    refine E_aload_n 0 dX4_chooseOne_16 rfl rfl rfl ?_
    refine E_gI (v := sI G1 28 11) fG_X4_120 rfl (lo_28 hL1) rfl dX4_chooseOne_17 ?_
    refine E_icmp_ne (tgt := 56) dX4_chooseOne_20 (by decide) (fun c => ?_) (fun c => ?_)
    · have hB := hB.1 c
      refine E_sub (lv' := [(0, .ref 28), (2, .int r1)]) [0, 2] rfl ?_
      exact EvI.tr hB hE1
    · have hB := hB.2 c
      refine E_aload_n 0 dX4_chooseOne_23 rfl rfl rfl ?_
      refine E_gR (j := 35) fG_X4_32 rfl (lo_28 hL1) (lr_28_6 hL1) (by decide) dX4_chooseOne_24 ?_
      refine E_iload_n 2 dX4_chooseOne_27 rfl rfl ?_
      refine E_aload_n 0 dX4_chooseOne_28 rfl rfl rfl ?_
      refine E_gR (j := sR G1 28 2) fG_X4_20 rfl (lo_28 hL1) rfl (lg_28_2 hL1).2.1 dX4_chooseOne_29 ?_
      refine E_iload_n 1 dX4_chooseOne_32 rfl rfl ?_
      obtain ⟨qq2, hB⟩ := hB
      refine E_aI (p := Int32.toNatClampNeg x1) (v := sI G1 (sR G1 28 2) (Int32.toNatClampNeg x1)) (lg_28_2 hL1) qq2 rfl rfl dX4_chooseOne_33 ?_
      refine E_sipush (v := 32767) dX4_chooseOne_34 (by decide) ?_
      refine E_iand dX4_chooseOne_37 ?_
      obtain ⟨qq3, hB⟩ := hB
      refine E_sI (p := Int32.toNatClampNeg r1) (la_35 hL1) qq3 rfl dX4_chooseOne_38 ?_
      refine E_aload_n 0 dX4_chooseOne_39 rfl rfl rfl ?_
      refine E_gR (j := 36) fG_X4_35 rfl (lo_28 hL1) (lr_28_7 hL1) (by decide) dX4_chooseOne_40 ?_
      refine E_iload_n 2 dX4_chooseOne_43 rfl rfl ?_
      refine E_iconst (v := 0) dX4_chooseOne_44 (by decide) ?_
      obtain ⟨qq4, hB⟩ := hB
      refine E_sI (p := Int32.toNatClampNeg r1) (la_36 hL1) qq4 rfl dX4_chooseOne_45 ?_
      refine E_aload_n 0 dX4_chooseOne_46 rfl rfl rfl ?_
      refine E_dup dX4_chooseOne_47 rfl ?_
      refine E_gI (v := sI G1 28 11) fG_X4_120 rfl (lo_28 hL1) rfl dX4_chooseOne_48 ?_
      refine E_iconst (v := 1) dX4_chooseOne_51 (by decide) ?_
      refine E_iadd dX4_chooseOne_52 ?_
      refine E_pI fP_X4_120 rfl (lo_28 hL1) dX4_chooseOne_53 ?_
      refine E_sub (lv' := [(0, .ref 28), (2, .int r1)]) [0, 2] rfl ?_
      exact EvI.tr hB hE1
  · have hB := hB.2 c
    refine E_iconst (v := (-1)) dX4_chooseOne_13 (by decide) ?_
    exact E_iret rfl dX4_chooseOne_14 ⟨_, rfl, hE1, hB⟩

set_option maxRecDepth 20000 in
set_option maxHeartbeats 2000000 in
theorem kX4_chooseOne_56 {K : KT} {G : St} {Q : Int32 → St → Prop} {x2 : Int32} (hL : Lay G.2.2) 
    (hB : vp_in x2 251 ∧ vp_in x2 251 ∧ Q ((sI G 36 (Int32.toNatClampNeg x2)) + 1) (uI G 36 (Int32.toNatClampNeg x2) ((sI G 36 (Int32.toNatClampNeg x2)) + 1))) :
    EvI K mX4_chooseOne 2 56 [(0, .ref 28), (2, .int x2)] [] G Q := by
  refine E_aload_n 0 dX4_chooseOne_56 rfl rfl rfl ?_
  refine E_gR (j := 36) fG_X4_35 rfl (lo_28 hL) (lr_28_7 hL) (by decide) dX4_chooseOne_57 ?_
  refine E_iload_n 1 dX4_chooseOne_60 rfl rfl ?_
  refine E_dup2 dX4_chooseOne_61 rfl rfl ?_
  obtain ⟨qq1, hB⟩ := hB
  refine E_aI (p := Int32.toNatClampNeg x2) (v := sI G 36 (Int32.toNatClampNeg x2)) (la_36 hL) qq1 rfl rfl dX4_chooseOne_62 ?_
  refine E_iconst (v := 1) dX4_chooseOne_63 (by decide) ?_
  refine E_iadd dX4_chooseOne_64 ?_
  refine E_dup_x2 dX4_chooseOne_65 rfl rfl rfl ?_
  obtain ⟨qq2, hB⟩ := hB
  refine E_sI (p := Int32.toNatClampNeg x2) (la_36 hL) qq2 rfl dX4_chooseOne_66 ?_
  exact E_iret rfl dX4_chooseOne_67 ⟨_, rfl, rfl, hB⟩

set_option maxRecDepth 20000 in
set_option maxHeartbeats 2000000 in
theorem kX4_forgetChosen_0 {K : KT} {G : St} {Q : St → Prop}  (hL : Lay G.2.2) 
    (hB : Q (uI G 28 11 0)) :
    EvV K mX4_forgetChosen 0 0 [(0, .ref 28)] [] G Q := by
  refine E_aload_n 0 dX4_forgetChosen_0 rfl rfl rfl ?_
  refine E_iconst (v := 0) dX4_forgetChosen_1 (by decide) ?_
  refine E_pI fP_X4_120 rfl (lo_28 hL) dX4_forgetChosen_2 ?_
  exact E_vret rfl dX4_forgetChosen_5 ⟨rfl, rfl, hB⟩

set_option maxRecDepth 20000 in
set_option maxHeartbeats 2000000 in
theorem kX4_rankOf_0 {K : KT} {G : St} {Q : Int32 → St → Prop} {x1 : Int32} (hL : Lay G.2.2) 
    (hB : EvI K mX4_chosenOf 2 0 [(0, .ref 28), (1, .int x1)] [] G (fun r1 G1 => EvI K mX4_rankOf 3 11 [(0, .ref 28), (1, .int x1), (2, .int r1), (3, .int 0), (4, .int 0)] [] G1 Q)) :
    EvI K mX4_rankOf 3 0 [(0, .ref 28), (1, .int x1)] [] G Q := by
  refine E_aload_n 0 dX4_rankOf_0 rfl rfl rfl ?_
  refine E_iload_n 1 dX4_rankOf_1 rfl rfl ?_
  refine E_cV (ci := 4) (as := [.int x1]) (st := []) cm_X4_chosenOf cV_X4_123 ⟨_, _, rfl⟩ (by decide) (lo_28 hL) rfl rfl (by decide) (Nat.le_of_ble_eq_true rfl) (Nat.le_of_ble_eq_true rfl) dX4_rankOf_2 hB (fun r G1 hr => ?_)
  obtain ⟨r1, rfl, hE1, hB⟩ := hr
  have hL1 : Lay G1.2.2 := by rw [hE1]; exact hL
  have hE1 : G1.2.2 = G.2.2 := hE1
  show Ev K mX4_rankOf 3 5 [(0, .ref 28), (1, .int x1)] [.int r1] G1 _
  refine E_istore_n (lv' := [(0, .ref 28), (1, .int x1), (2, .int r1)]) dX4_rankOf_5 rfl (by decide) rfl ?_
  refine E_iconst (v := 0) dX4_rankOf_6 (by decide) ?_
  refine E_istore_n (lv' := [(0, .ref 28), (1, .int x1), (2, .int r1), (3, .int 0)]) dX4_rankOf_7 rfl (by decide) rfl ?_
  refine E_iconst (v := 0) dX4_rankOf_8 (by decide) ?_
  refine E_istore (lv' := [(0, .ref 28), (1, .int x1), (2, .int r1), (3, .int 0), (4, .int 0)]) dX4_rankOf_9 (by decide) rfl ?_
  exact EvI.tr hB hE1

set_option maxRecDepth 20000 in
set_option maxHeartbeats 2000000 in
theorem kX4_rankOf_11 {K : KT} {G : St} {Q : Int32 → St → Prop} {x1 : Int32} {x2 : Int32} {x3 : Int32} {x4 : Int32} (hL : Lay G.2.2) 
    (hB : (((sI G 28 12) ≤ x4 → Q x3 G) ∧ (¬ (sI G 28 12) ≤ x4 → EvI K mX4_chosenOf 2 0 [(0, .ref 28), (1, .int x4)] [] G (fun r1 G1 => ((x2 < r1 → EvI K mX4_rankOf 3 46 [(0, .ref 28), (1, .int x1), (2, .int x2), (3, .int x3), (4, .int x4)] [] G1 Q) ∧ (¬ x2 < r1 → ((¬ r1 = x2 → EvI K mX4_rankOf 3 49 [(0, .ref 28), (1, .int x1), (2, .int x2), (3, .int x3), (4, .int x4)] [] G1 Q) ∧ (r1 = x2 → ((x1 ≤ x4 → EvI K mX4_rankOf 3 49 [(0, .ref 28), (1, .int x1), (2, .int x2), (3, .int x3), (4, .int x4)] [] G1 Q) ∧ (¬ x1 ≤ x4 → EvI K mX4_rankOf 3 46 [(0, .ref 28), (1, .int x1), (2, .int x2), (3, .int x3), (4, .int x4)] [] G1 Q)))))))))) :
    EvI K mX4_rankOf 3 11 [(0, .ref 28), (1, .int x1), (2, .int x2), (3, .int x3), (4, .int x4)] [] G Q := by
  refine E_iload 4 dX4_rankOf_11 rfl ?_
  refine E_aload_n 0 dX4_rankOf_13 rfl rfl rfl ?_
  refine E_gI (v := sI G 28 12) fG_X4_46 rfl (lo_28 hL) rfl dX4_rankOf_14 ?_
  refine E_icmp_ge (tgt := 55) dX4_rankOf_17 (by decide) (fun c => ?_) (fun c => ?_)
  · have hB := hB.1 c
    refine E_iload_n 3 dX4_rankOf_55 rfl rfl ?_
    exact E_iret rfl dX4_rankOf_56 ⟨_, rfl, rfl, hB⟩
  · have hB := hB.2 c
    refine E_aload_n 0 dX4_rankOf_20 rfl rfl rfl ?_
    refine E_iload 4 dX4_rankOf_21 rfl ?_
    refine E_cV (ci := 4) (as := [.int x4]) (st := []) cm_X4_chosenOf cV_X4_123 ⟨_, _, rfl⟩ (by decide) (lo_28 hL) rfl rfl (by decide) (Nat.le_of_ble_eq_true rfl) (Nat.le_of_ble_eq_true rfl) dX4_rankOf_23 hB (fun r G1 hr => ?_)
    obtain ⟨r1, rfl, hE1, hB⟩ := hr
    have hL1 : Lay G1.2.2 := by rw [hE1]; exact hL
    have hE1 : G1.2.2 = G.2.2 := hE1
    show Ev K mX4_rankOf 3 26 [(0, .ref 28), (1, .int x1), (2, .int x2), (3, .int x3), (4, .int x4)] [.int r1] G1 _
    refine E_istore (lv' := [(0, .ref 28), (1, .int x1), (2, .int x2), (3, .int x3), (4, .int x4), (5, .int r1)]) dX4_rankOf_26 (by decide) rfl ?_
    refine E_iload 5 dX4_rankOf_28 rfl ?_
    refine E_iload_n 2 dX4_rankOf_30 rfl rfl ?_
    refine E_icmp_gt (tgt := 46) dX4_rankOf_31 (by decide) (fun c => ?_) (fun c => ?_)
    · have hB := hB.1 c
      refine E_sub (lv' := [(0, .ref 28), (1, .int x1), (2, .int x2), (3, .int x3), (4, .int x4)]) [0, 1, 2, 3, 4] rfl ?_
      exact EvI.tr hB hE1
    · have hB := hB.2 c
      refine E_iload 5 dX4_rankOf_34 rfl ?_
      refine E_iload_n 2 dX4_rankOf_36 rfl rfl ?_
      refine E_icmp_ne (tgt := 49) dX4_rankOf_37 (by decide) (fun c => ?_) (fun c => ?_)
      · have hB := hB.1 c
        refine E_sub (lv' := [(0, .ref 28), (1, .int x1), (2, .int x2), (3, .int x3), (4, .int x4)]) [0, 1, 2, 3, 4] rfl ?_
        exact EvI.tr hB hE1
      · have hB := hB.2 c
        refine E_iload 4 dX4_rankOf_40 rfl ?_
        refine E_iload_n 1 dX4_rankOf_42 rfl rfl ?_
        refine E_icmp_ge (tgt := 49) dX4_rankOf_43 (by decide) (fun c => ?_) (fun c => ?_)
        · have hB := hB.1 c
          refine E_sub (lv' := [(0, .ref 28), (1, .int x1), (2, .int x2), (3, .int x3), (4, .int x4)]) [0, 1, 2, 3, 4] rfl ?_
          exact EvI.tr hB hE1
        · have hB := hB.2 c
          refine E_sub (lv' := [(0, .ref 28), (1, .int x1), (2, .int x2), (3, .int x3), (4, .int x4)]) [0, 1, 2, 3, 4] rfl ?_
          exact EvI.tr hB hE1

set_option maxRecDepth 20000 in
set_option maxHeartbeats 2000000 in
theorem kX4_rankOf_46 {K : KT} {G : St} {Q : Int32 → St → Prop} {x1 : Int32} {x2 : Int32} {x3 : Int32} {x4 : Int32} (hL : Lay G.2.2) 
    (hB : EvI K mX4_rankOf 3 49 [(0, .ref 28), (1, .int x1), (2, .int x2), (3, .int (x3 + 1)), (4, .int x4)] [] G Q) :
    EvI K mX4_rankOf 3 46 [(0, .ref 28), (1, .int x1), (2, .int x2), (3, .int x3), (4, .int x4)] [] G Q := by
  refine E_iinc (v := x3 + 1) (lv' := [(0, .ref 28), (1, .int x1), (2, .int x2), (3, .int (x3 + 1)), (4, .int x4)]) 3 dX4_rankOf_46 rfl rfl (by decide) rfl ?_
  exact EvI.tr hB rfl

set_option maxRecDepth 20000 in
set_option maxHeartbeats 2000000 in
theorem kX4_rankOf_49 {K : KT} {G : St} {Q : Int32 → St → Prop} {x1 : Int32} {x2 : Int32} {x3 : Int32} {x4 : Int32} (hL : Lay G.2.2) 
    (hB : EvI K mX4_rankOf 3 11 [(0, .ref 28), (1, .int x1), (2, .int x2), (3, .int x3), (4, .int (x4 + 1))] [] G Q) :
    EvI K mX4_rankOf 3 49 [(0, .ref 28), (1, .int x1), (2, .int x2), (3, .int x3), (4, .int x4)] [] G Q := by
  refine E_iinc (v := x4 + 1) (lv' := [(0, .ref 28), (1, .int x1), (2, .int x2), (3, .int x3), (4, .int (x4 + 1))]) 4 dX4_rankOf_49 rfl rfl (by decide) rfl ?_
  refine E_goto (tgt := 11) dX4_rankOf_52 (by decide) ?_
  exact EvI.tr hB rfl

set_option maxRecDepth 20000 in
set_option maxHeartbeats 2000000 in
theorem kX4_put_0 {K : KT} {G : St} {Q : St → Prop} {x1 : Int32} (hL : Lay G.2.2) 
    (hB : ((200 ≤ (sI G 28 9) → Q G) ∧ (¬ 200 ≤ (sI G 28 9) → vp_in (sI G 28 9) 200 ∧ Q (uI (uI G 28 9 ((sI G 28 9) + 1)) 37 (Int32.toNatClampNeg (sI G 28 9)) ((Int32.toInt8 ((Int32.toInt8 x1).toInt32)).toInt32))))) :
    EvV K mX4_put 0 0 [(0, .ref 28), (1, .int x1)] [] G Q := by
  refine E_aload_n 0 dX4_put_0 rfl rfl rfl ?_
  refine E_gI (v := sI G 28 9) fG_X4_130 rfl (lo_28 hL) rfl dX4_put_1 ?_
  refine E_sipush (v := 200) dX4_put_4 (by decide) ?_
  refine E_icmp_ge (tgt := 28) dX4_put_7 (by decide) (fun c => ?_) (fun c => ?_)
  · have hB := hB.1 c
    exact E_vret rfl dX4_put_28 ⟨rfl, rfl, hB⟩
  · have hB := hB.2 c
    refine E_aload_n 0 dX4_put_10 rfl rfl rfl ?_
    refine E_gR (j := 37) fG_X4_38 rfl (lo_28 hL) (lr_28_8 hL) (by decide) dX4_put_11 ?_
    refine E_aload_n 0 dX4_put_14 rfl rfl rfl ?_
    refine E_dup dX4_put_15 rfl ?_
    refine E_gI (v := sI G 28 9) fG_X4_130 rfl (lo_28 hL) rfl dX4_put_16 ?_
    refine E_dup_x1 dX4_put_19 rfl rfl ?_
    refine E_iconst (v := 1) dX4_put_20 (by decide) ?_
    refine E_iadd dX4_put_21 ?_
    refine E_pI fP_X4_130 rfl (lo_28 hL) dX4_put_22 ?_
    refine E_iload_n 1 dX4_put_25 rfl rfl ?_
    refine E_i2b dX4_put_26 rfl ?_
    obtain ⟨qq1, hB⟩ := hB
    refine E_sB (p := Int32.toNatClampNeg (sI G 28 9)) (la_37 hL) qq1 rfl dX4_put_27 ?_
    exact E_vret rfl dX4_put_28 ⟨rfl, rfl, hB⟩

set_option maxRecDepth 20000 in
set_option maxHeartbeats 2000000 in
theorem kX4_putComma_0 {K : KT} {G : St} {Q : St → Prop}  (hL : Lay G.2.2) 
    (hB : (((sI G 28 9) ≤ 0 → Q G) ∧ (¬ (sI G 28 9) ≤ 0 → EvV K mX4_put 0 0 [(0, .ref 28), (1, .int 32)] [] G (fun G1 => EvV K mX4_put 0 0 [(0, .ref 28), (1, .int 44)] [] G1 (fun G2 => EvV K mX4_put 0 0 [(0, .ref 28), (1, .int 32)] [] G2 (fun G3 => Q G3)))))) :
    EvV K mX4_putComma 1 0 [(0, .ref 28)] [] G Q := by
  refine E_aload_n 0 dX4_putComma_0 rfl rfl rfl ?_
  refine E_gI (v := sI G 28 9) fG_X4_130 rfl (lo_28 hL) rfl dX4_putComma_1 ?_
  refine E_if_le (tgt := 25) dX4_putComma_4 (by decide) (fun c => ?_) (fun c => ?_)
  · have hB := hB.1 c
    exact E_vret rfl dX4_putComma_25 ⟨rfl, rfl, hB⟩
  · have hB := hB.2 c
    refine E_aload_n 0 dX4_putComma_7 rfl rfl rfl ?_
    refine E_bipush (v := 32) dX4_putComma_8 (by decide) ?_
    refine E_cV (ci := 4) (as := [.int 32]) (st := []) cm_X4_put cV_X4_147 ⟨_, _, rfl⟩ (by decide) (lo_28 hL) rfl rfl (by decide) (Nat.le_of_ble_eq_true rfl) (Nat.le_of_ble_eq_true rfl) dX4_putComma_10 hB (fun r G1 hr => ?_)
    obtain ⟨rfl, hE1, hB⟩ := hr
    have hL1 : Lay G1.2.2 := by rw [hE1]; exact hL
    have hE1 : G1.2.2 = G.2.2 := hE1
    show Ev K mX4_putComma 1 13 [(0, .ref 28)] [] G1 _
    refine E_aload_n 0 dX4_putComma_13 rfl rfl rfl ?_
    refine E_bipush (v := 44) dX4_putComma_14 (by decide) ?_
    refine E_cV (ci := 4) (as := [.int 44]) (st := []) cm_X4_put cV_X4_147 ⟨_, _, rfl⟩ (by decide) (lo_28 hL1) rfl rfl (by decide) (Nat.le_of_ble_eq_true rfl) (Nat.le_of_ble_eq_true rfl) dX4_putComma_16 hB (fun r G2 hr => ?_)
    obtain ⟨rfl, hE2, hB⟩ := hr
    have hL2 : Lay G2.2.2 := by rw [hE2]; exact hL1
    have hE2 : G2.2.2 = G.2.2 := hE2.trans hE1
    show Ev K mX4_putComma 1 19 [(0, .ref 28)] [] G2 _
    refine E_aload_n 0 dX4_putComma_19 rfl rfl rfl ?_
    refine E_bipush (v := 32) dX4_putComma_20 (by decide) ?_
    refine E_cV (ci := 4) (as := [.int 32]) (st := []) cm_X4_put cV_X4_147 ⟨_, _, rfl⟩ (by decide) (lo_28 hL2) rfl rfl (by decide) (Nat.le_of_ble_eq_true rfl) (Nat.le_of_ble_eq_true rfl) dX4_putComma_22 hB (fun r G3 hr => ?_)
    obtain ⟨rfl, hE3, hB⟩ := hr
    have hL3 : Lay G3.2.2 := by rw [hE3]; exact hL2
    have hE3 : G3.2.2 = G.2.2 := hE3.trans hE2
    show Ev K mX4_putComma 1 25 [(0, .ref 28)] [] G3 _
    exact E_vret rfl dX4_putComma_25 ⟨rfl, hE3, hB⟩

set_option maxRecDepth 20000 in
set_option maxHeartbeats 2000000 in
theorem kX4_putWord_0 {K : KT} {G : St} {Q : St → Prop} {y1 : Int64} (hL : Lay G.2.2) 
    (hB : EvI K mX10_lengthOf 0 0 [(0, .long y1)] [] G (fun r1 G1 => EvV K mX4_putWord 1 7 [(0, .ref 28), (1, .long y1), (3, .int (r1 - 1))] [] G1 Q)) :
    EvV K mX4_putWord 1 0 [(0, .ref 28), (1, .long y1)] [] G Q := by
  refine E_lload_n 1 dX4_putWord_0 rfl rfl ?_
  refine E_callS (as := [.long y1]) (st := []) cm_X10_lengthOf cS_X4_179 rfl rfl (by decide) (Nat.le_of_ble_eq_true rfl) (Nat.le_of_ble_eq_true rfl) dX4_putWord_1 hB (fun r G1 hr => ?_)
  obtain ⟨r1, rfl, hE1, hB⟩ := hr
  have hL1 : Lay G1.2.2 := by rw [hE1]; exact hL
  have hE1 : G1.2.2 = G.2.2 := hE1
  show Ev K mX4_putWord 1 4 [(0, .ref 28), (1, .long y1)] [.int r1] G1 _
  refine E_iconst (v := 1) dX4_putWord_4 (by decide) ?_
  refine E_isub dX4_putWord_5 ?_
  refine E_istore_n (lv' := [(0, .ref 28), (1, .long y1), (3, .int (r1 - 1))]) dX4_putWord_6 rfl (by decide) rfl ?_
  exact EvV.tr hB hE1

set_option maxRecDepth 20000 in
set_option maxHeartbeats 2000000 in
theorem kX4_putWord_7 {K : KT} {G : St} {Q : St → Prop} {y1 : Int64} {x3 : Int32} (hL : Lay G.2.2) 
    (hB : ((x3 < 0 → Q G) ∧ (¬ x3 < 0 → vp_in x3 9 ∧ (¬ (pw (Int32.toNatClampNeg x3)) = 0) ∧ ∀ v3 : Int32, v3 = Int64.toInt32 ((y1 / (pw (Int32.toNatClampNeg x3))) - (y1 / (pw (Int32.toNatClampNeg x3))) / 27 * 27) → EvV K mX4_put 0 0 [(0, .ref 28), (1, .int (96 + v3))] [] G (fun G4 => EvV K mX4_putWord 1 7 [(0, .ref 28), (1, .long y1), (3, .int (x3 + (-1)))] [] G4 Q)))) :
    EvV K mX4_putWord 1 7 [(0, .ref 28), (1, .long y1), (3, .int x3)] [] G Q := by
  refine E_iload_n 2 dX4_putWord_7 rfl rfl ?_
  refine E_if_lt (tgt := 36) dX4_putWord_8 (by decide) (fun c => ?_) (fun c => ?_)
  · have hB := hB.1 c
    exact E_vret rfl dX4_putWord_36 ⟨rfl, rfl, hB⟩
  · have hB := hB.2 c
    refine E_aload_n 0 dX4_putWord_11 rfl rfl rfl ?_
    refine E_bipush (v := 96) dX4_putWord_12 (by decide) ?_
    refine E_lload_n 1 dX4_putWord_14 rfl rfl ?_
    refine E_getPow tm_1058 dX4_putWord_15 ?_
    refine E_iload_n 2 dX4_putWord_18 rfl rfl ?_
    obtain ⟨qq1, hB⟩ := hB
    refine E_ldPow qq1 dX4_putWord_19 ?_
    obtain ⟨qq2, hB⟩ := hB
    refine E_ldiv dX4_putWord_20 qq2 ?_
    refine E_ldc2 (v := 27) tm_1059 dX4_putWord_21 ?_
    refine E_lrem dX4_putWord_24 (by decide) ?_
    refine E_l2i dX4_putWord_25 rfl ?_
    refine E_topi (fun v3 ev3 => ?_)
    have hB := hB v3 ev3
    refine E_iadd dX4_putWord_26 ?_
    refine E_cV (ci := 4) (as := [.int (96 + v3)]) (st := []) cm_X4_put cV_X4_147 ⟨_, _, rfl⟩ (by decide) (lo_28 hL) rfl rfl (by decide) (Nat.le_of_ble_eq_true rfl) (Nat.le_of_ble_eq_true rfl) dX4_putWord_27 hB (fun r G4 hr => ?_)
    obtain ⟨rfl, hE4, hB⟩ := hr
    have hL4 : Lay G4.2.2 := by rw [hE4]; exact hL
    have hE4 : G4.2.2 = G.2.2 := hE4
    show Ev K mX4_putWord 1 30 [(0, .ref 28), (1, .long y1), (3, .int x3)] [] G4 _
    refine E_iinc (v := x3 + (-1)) (lv' := [(0, .ref 28), (1, .long y1), (3, .int (x3 + (-1)))]) 2 dX4_putWord_30 rfl rfl (by decide) rfl ?_
    refine E_goto (tgt := 7) dX4_putWord_33 (by decide) ?_
    exact EvV.tr hB hE4

set_option maxRecDepth 20000 in
set_option maxHeartbeats 2000000 in
theorem kX4_putNumber_0 {K : KT} {G : St} {Q : St → Prop} {x1 : Int32} (hL : Lay G.2.2) 
    (hB : EvV K mX4_putNumber 1 4 [(0, .ref 28), (1, .int x1), (2, .int 1000)] [] G Q) :
    EvV K mX4_putNumber 1 0 [(0, .ref 28), (1, .int x1)] [] G Q := by
  refine E_sipush (v := 1000) dX4_putNumber_0 (by decide) ?_
  refine E_istore_n (lv' := [(0, .ref 28), (1, .int x1), (2, .int 1000)]) dX4_putNumber_3 rfl (by decide) rfl ?_
  exact EvV.tr hB rfl

set_option maxRecDepth 20000 in
set_option maxHeartbeats 2000000 in
theorem kX4_putNumber_4 {K : KT} {G : St} {Q : St → Prop} {x1 : Int32} {x2 : Int32} (hL : Lay G.2.2) 
    (hB : ((x2 ≤ 0 → Q G) ∧ (¬ x2 ≤ 0 → ((x2 ≤ x1 → EvV K mX4_putNumber 1 18 [(0, .ref 28), (1, .int x1), (2, .int x2)] [] G Q) ∧ (¬ x2 ≤ x1 → ((¬ x2 = 1 → EvV K mX4_putNumber 1 31 [(0, .ref 28), (1, .int x1), (2, .int x2)] [] G Q) ∧ (x2 = 1 → EvV K mX4_putNumber 1 18 [(0, .ref 28), (1, .int x1), (2, .int x2)] [] G Q))))))) :
    EvV K mX4_putNumber 1 4 [(0, .ref 28), (1, .int x1), (2, .int x2)] [] G Q := by
  refine E_iload_n 2 dX4_putNumber_4 rfl rfl ?_
  refine E_if_le (tgt := 39) dX4_putNumber_5 (by decide) (fun c => ?_) (fun c => ?_)
  · have hB := hB.1 c
    exact E_vret rfl dX4_putNumber_39 ⟨rfl, rfl, hB⟩
  · have hB := hB.2 c
    refine E_iload_n 1 dX4_putNumber_8 rfl rfl ?_
    refine E_iload_n 2 dX4_putNumber_9 rfl rfl ?_
    refine E_icmp_ge (tgt := 18) dX4_putNumber_10 (by decide) (fun c => ?_) (fun c => ?_)
    · have hB := hB.1 c
      exact EvV.tr hB rfl
    · have hB := hB.2 c
      refine E_iload_n 2 dX4_putNumber_13 rfl rfl ?_
      refine E_iconst (v := 1) dX4_putNumber_14 (by decide) ?_
      refine E_icmp_ne (tgt := 31) dX4_putNumber_15 (by decide) (fun c => ?_) (fun c => ?_)
      · have hB := hB.1 c
        exact EvV.tr hB rfl
      · have hB := hB.2 c
        exact EvV.tr hB rfl

set_option maxRecDepth 20000 in
set_option maxHeartbeats 2000000 in
theorem kX4_putNumber_18 {K : KT} {G : St} {Q : St → Prop} {x1 : Int32} {x2 : Int32} (hL : Lay G.2.2) 
    (hB : (¬ x2 = 0) ∧ EvV K mX4_put 0 0 [(0, .ref 28), (1, .int (48 + ((x1 / x2) - (x1 / x2) / 10 * 10)))] [] G (fun G2 => EvV K mX4_putNumber 1 31 [(0, .ref 28), (1, .int x1), (2, .int x2)] [] G2 Q)) :
    EvV K mX4_putNumber 1 18 [(0, .ref 28), (1, .int x1), (2, .int x2)] [] G Q := by
  refine E_aload_n 0 dX4_putNumber_18 rfl rfl rfl ?_
  refine E_bipush (v := 48) dX4_putNumber_19 (by decide) ?_
  refine E_iload_n 1 dX4_putNumber_21 rfl rfl ?_
  refine E_iload_n 2 dX4_putNumber_22 rfl rfl ?_
  obtain ⟨qq1, hB⟩ := hB
  refine E_idiv dX4_putNumber_23 qq1 ?_
  refine E_bipush (v := 10) dX4_putNumber_24 (by decide) ?_
  refine E_irem dX4_putNumber_26 (by decide) ?_
  refine E_iadd dX4_putNumber_27 ?_
  refine E_cV (ci := 4) (as := [.int (48 + ((x1 / x2) - (x1 / x2) / 10 * 10))]) (st := []) cm_X4_put cV_X4_147 ⟨_, _, rfl⟩ (by decide) (lo_28 hL) rfl rfl (by decide) (Nat.le_of_ble_eq_true rfl) (Nat.le_of_ble_eq_true rfl) dX4_putNumber_28 hB (fun r G2 hr => ?_)
  obtain ⟨rfl, hE2, hB⟩ := hr
  have hL2 : Lay G2.2.2 := by rw [hE2]; exact hL
  have hE2 : G2.2.2 = G.2.2 := hE2
  show Ev K mX4_putNumber 1 31 [(0, .ref 28), (1, .int x1), (2, .int x2)] [] G2 _
  exact EvV.tr hB hE2

set_option maxRecDepth 20000 in
set_option maxHeartbeats 2000000 in
theorem kX4_putNumber_31 {K : KT} {G : St} {Q : St → Prop} {x1 : Int32} {x2 : Int32} (hL : Lay G.2.2) 
    (hB : EvV K mX4_putNumber 1 4 [(0, .ref 28), (1, .int x1), (2, .int (x2 / 10))] [] G Q) :
    EvV K mX4_putNumber 1 31 [(0, .ref 28), (1, .int x1), (2, .int x2)] [] G Q := by
  refine E_iload_n 2 dX4_putNumber_31 rfl rfl ?_
  refine E_bipush (v := 10) dX4_putNumber_32 (by decide) ?_
  refine E_idiv dX4_putNumber_34 (by decide) ?_
  refine E_istore_n (lv' := [(0, .ref 28), (1, .int x1), (2, .int (x2 / 10))]) dX4_putNumber_35 rfl (by decide) rfl ?_
  refine E_goto (tgt := 4) dX4_putNumber_36 (by decide) ?_
  exact EvV.tr hB rfl

set_option maxRecDepth 20000 in
set_option maxHeartbeats 2000000 in
theorem kX4_tellTerm_0 {K : KT} {G : St} {Q : St → Prop} {x1 : Int32} {y2 : Int64} (hL : Lay G.2.2) 
    (hB : ((¬ x1 = 0 → ((¬ x1 = 1 → ((¬ x1 = 2 → EvV K mX4_tellTerm 2 53 [(0, .ref 28), (2, .long y2)] [.long 11438892, .ref 28] G Q) ∧ (x1 = 2 → EvV K mX4_tellTerm 2 53 [(0, .ref 28), (2, .long y2)] [.long 311436, .ref 28] G Q))) ∧ (x1 = 1 → EvV K mX4_putWord 1 0 [(0, .ref 28), (1, .long 279252)] [] G (fun G1 => EvV K mX4_put 0 0 [(0, .ref 28), (1, .int 32)] [] G1 (fun G2 => EvV K mX4_putWord 1 0 [(0, .ref 28), (1, .long y2)] [] G2 (fun G3 => Q G3)))))) ∧ (x1 = 0 → EvV K mX4_putWord 1 0 [(0, .ref 28), (1, .long y2)] [] G (fun G4 => Q G4)))) :
    EvV K mX4_tellTerm 2 0 [(0, .ref 28), (1, .int x1), (2, .long y2)] [] G Q := by
  refine E_iload_n 1 dX4_tellTerm_0 rfl rfl ?_
  refine E_if_ne (tgt := 12) dX4_tellTerm_1 (by decide) (fun c => ?_) (fun c => ?_)
  · have hB := hB.1 c
    refine E_iload_n 1 dX4_tellTerm_12 rfl rfl ?_
    refine E_iconst (v := 1) dX4_tellTerm_13 (by decide) ?_
    refine E_icmp_ne (tgt := 38) dX4_tellTerm_14 (by decide) (fun c => ?_) (fun c => ?_)
    · have hB := hB.1 c
      refine E_aload_n 0 dX4_tellTerm_38 rfl rfl rfl ?_
      refine E_iload_n 1 dX4_tellTerm_39 rfl rfl ?_
      refine E_iconst (v := 2) dX4_tellTerm_40 (by decide) ?_
      refine E_icmp_ne (tgt := 50) dX4_tellTerm_41 (by decide) (fun c => ?_) (fun c => ?_)
      · have hB := hB.1 c
        refine E_ldc2 (v := 11438892) tm_1066 dX4_tellTerm_50 ?_
        refine E_sub (lv' := [(0, .ref 28), (2, .long y2)]) [0, 2] rfl ?_
        exact EvV.tr hB rfl
      · have hB := hB.2 c
        refine E_ldc2 (v := 311436) tm_1065 dX4_tellTerm_44 ?_
        refine E_goto (tgt := 53) dX4_tellTerm_47 (by decide) ?_
        refine E_sub (lv' := [(0, .ref 28), (2, .long y2)]) [0, 2] rfl ?_
        exact EvV.tr hB rfl
    · have hB := hB.2 c
      refine E_aload_n 0 dX4_tellTerm_17 rfl rfl rfl ?_
      refine E_ldc2 (v := 279252) tm_1064 dX4_tellTerm_18 ?_
      refine E_cV (ci := 4) (as := [.long 279252]) (st := []) cm_X4_putWord cV_X4_143 ⟨_, _, rfl⟩ (by decide) (lo_28 hL) rfl rfl (by decide) (Nat.le_of_ble_eq_true rfl) (Nat.le_of_ble_eq_true rfl) dX4_tellTerm_21 hB (fun r G1 hr => ?_)
      obtain ⟨rfl, hE1, hB⟩ := hr
      have hL1 : Lay G1.2.2 := by rw [hE1]; exact hL
      have hE1 : G1.2.2 = G.2.2 := hE1
      show Ev K mX4_tellTerm 2 24 [(0, .ref 28), (1, .int x1), (2, .long y2)] [] G1 _
      refine E_aload_n 0 dX4_tellTerm_24 rfl rfl rfl ?_
      refine E_bipush (v := 32) dX4_tellTerm_25 (by decide) ?_
      refine E_cV (ci := 4) (as := [.int 32]) (st := []) cm_X4_put cV_X4_147 ⟨_, _, rfl⟩ (by decide) (lo_28 hL1) rfl rfl (by decide) (Nat.le_of_ble_eq_true rfl) (Nat.le_of_ble_eq_true rfl) dX4_tellTerm_27 hB (fun r G2 hr => ?_)
      obtain ⟨rfl, hE2, hB⟩ := hr
      have hL2 : Lay G2.2.2 := by rw [hE2]; exact hL1
      have hE2 : G2.2.2 = G.2.2 := hE2.trans hE1
      show Ev K mX4_tellTerm 2 30 [(0, .ref 28), (1, .int x1), (2, .long y2)] [] G2 _
      refine E_aload_n 0 dX4_tellTerm_30 rfl rfl rfl ?_
      refine E_lload_n 2 dX4_tellTerm_31 rfl rfl ?_
      refine E_cV (ci := 4) (as := [.long y2]) (st := []) cm_X4_putWord cV_X4_143 ⟨_, _, rfl⟩ (by decide) (lo_28 hL2) rfl rfl (by decide) (Nat.le_of_ble_eq_true rfl) (Nat.le_of_ble_eq_true rfl) dX4_tellTerm_32 hB (fun r G3 hr => ?_)
      obtain ⟨rfl, hE3, hB⟩ := hr
      have hL3 : Lay G3.2.2 := by rw [hE3]; exact hL2
      have hE3 : G3.2.2 = G.2.2 := hE3.trans hE2
      show Ev K mX4_tellTerm 2 35 [(0, .ref 28), (1, .int x1), (2, .long y2)] [] G3 _
      refine E_goto (tgt := 68) dX4_tellTerm_35 (by decide) ?_
      exact E_vret rfl dX4_tellTerm_68 ⟨rfl, hE3, hB⟩
  · have hB := hB.2 c
    refine E_aload_n 0 dX4_tellTerm_4 rfl rfl rfl ?_
    refine E_lload_n 2 dX4_tellTerm_5 rfl rfl ?_
    refine E_cV (ci := 4) (as := [.long y2]) (st := []) cm_X4_putWord cV_X4_143 ⟨_, _, rfl⟩ (by decide) (lo_28 hL) rfl rfl (by decide) (Nat.le_of_ble_eq_true rfl) (Nat.le_of_ble_eq_true rfl) dX4_tellTerm_6 hB (fun r G4 hr => ?_)
    obtain ⟨rfl, hE4, hB⟩ := hr
    have hL4 : Lay G4.2.2 := by rw [hE4]; exact hL
    have hE4 : G4.2.2 = G.2.2 := hE4
    show Ev K mX4_tellTerm 2 9 [(0, .ref 28), (1, .int x1), (2, .long y2)] [] G4 _
    refine E_goto (tgt := 68) dX4_tellTerm_9 (by decide) ?_
    exact E_vret rfl dX4_tellTerm_68 ⟨rfl, hE4, hB⟩

set_option maxRecDepth 20000 in
set_option maxHeartbeats 2000000 in
theorem kX4_tellTerm_53 {K : KT} {G : St} {Q : St → Prop} {y2 : Int64} {ys1 : Int64} (hL : Lay G.2.2) 
    (hB : EvV K mX4_putWord 1 0 [(0, .ref 28), (1, .long ys1)] [] G (fun G1 => EvV K mX4_put 0 0 [(0, .ref 28), (1, .int 32)] [] G1 (fun G2 => EvV K mX4_putNumber 1 0 [(0, .ref 28), (1, .int (Int64.toInt32 y2))] [] G2 (fun G3 => Q G3)))) :
    EvV K mX4_tellTerm 2 53 [(0, .ref 28), (2, .long y2)] [.long ys1, .ref 28] G Q := by
  refine E_cV (ci := 4) (as := [.long ys1]) (st := []) cm_X4_putWord cV_X4_143 ⟨_, _, rfl⟩ (by decide) (lo_28 hL) rfl rfl (by decide) (Nat.le_of_ble_eq_true rfl) (Nat.le_of_ble_eq_true rfl) dX4_tellTerm_53 hB (fun r G1 hr => ?_)
  obtain ⟨rfl, hE1, hB⟩ := hr
  have hL1 : Lay G1.2.2 := by rw [hE1]; exact hL
  have hE1 : G1.2.2 = G.2.2 := hE1
  show Ev K mX4_tellTerm 2 56 [(0, .ref 28), (2, .long y2)] [] G1 _
  refine E_aload_n 0 dX4_tellTerm_56 rfl rfl rfl ?_
  refine E_bipush (v := 32) dX4_tellTerm_57 (by decide) ?_
  refine E_cV (ci := 4) (as := [.int 32]) (st := []) cm_X4_put cV_X4_147 ⟨_, _, rfl⟩ (by decide) (lo_28 hL1) rfl rfl (by decide) (Nat.le_of_ble_eq_true rfl) (Nat.le_of_ble_eq_true rfl) dX4_tellTerm_59 hB (fun r G2 hr => ?_)
  obtain ⟨rfl, hE2, hB⟩ := hr
  have hL2 : Lay G2.2.2 := by rw [hE2]; exact hL1
  have hE2 : G2.2.2 = G.2.2 := hE2.trans hE1
  show Ev K mX4_tellTerm 2 62 [(0, .ref 28), (2, .long y2)] [] G2 _
  refine E_aload_n 0 dX4_tellTerm_62 rfl rfl rfl ?_
  refine E_lload_n 1 dX4_tellTerm_63 rfl rfl ?_
  refine E_l2i dX4_tellTerm_64 rfl ?_
  refine E_cV (ci := 4) (as := [.int (Int64.toInt32 y2)]) (st := []) cm_X4_putNumber cV_X4_176 ⟨_, _, rfl⟩ (by decide) (lo_28 hL2) rfl rfl (by decide) (Nat.le_of_ble_eq_true rfl) (Nat.le_of_ble_eq_true rfl) dX4_tellTerm_65 hB (fun r G3 hr => ?_)
  obtain ⟨rfl, hE3, hB⟩ := hr
  have hL3 : Lay G3.2.2 := by rw [hE3]; exact hL2
  have hE3 : G3.2.2 = G.2.2 := hE3.trans hE2
  show Ev K mX4_tellTerm 2 68 [(0, .ref 28), (2, .long y2)] [] G3 _
  exact E_vret rfl dX4_tellTerm_68 ⟨rfl, hE3, hB⟩

set_option maxRecDepth 20000 in
set_option maxHeartbeats 2000000 in
theorem kX4_tell_0 {K : KT} {G : St} {Q : St → Prop} {x1 : Int32} {h2 : Nat} {t3 : Nat} (hL : Lay G.2.2) (hh2 : h2 = 39 ∨ h2 = 49) (ht3 : t3 = 59 ∨ t3 = 62)
    (hB : (((sI G 28 10) = x1 → Q G) ∧ (¬ (sI G 28 10) = x1 → EvI K mX4_has 0 0 [(0, .ref 28), (1, .int x1)] [] G (fun r1 G1 => ((¬ r1 = 0 → vp_in x1 (sN G1 (sR G1 28 2)) ∧ EvV K mX4_tell 3 38 [(0, .ref 28), (2, .ref h2), (3, .ref t3), (4, .int (sI (uI (uI G1 28 10 x1) 28 9 0) (sR G1 28 2) (Int32.toNatClampNeg x1))), (5, .int 0)] [] (uI (uI G1 28 10 x1) 28 9 0) Q) ∧ (r1 = 0 → Q G1)))))) :
    EvV K mX4_tell 3 0 [(0, .ref 28), (1, .int x1), (2, .ref h2), (3, .ref t3)] [] G Q := by
  refine E_aload_n 0 dX4_tell_0 rfl rfl rfl ?_
  refine E_gI (v := sI G 28 10) fG_X4_42 rfl (lo_28 hL) rfl dX4_tell_1 ?_
  refine E_iload_n 1 dX4_tell_4 rfl rfl ?_
  refine E_icmp_eq (tgt := 16) dX4_tell_5 (by decide) (fun c => ?_) (fun c => ?_)
  · have hB := hB.1 c
    exact E_vret rfl dX4_tell_16 ⟨rfl, rfl, hB⟩
  · have hB := hB.2 c
    refine E_aload_n 0 dX4_tell_8 rfl rfl rfl ?_
    refine E_iload_n 1 dX4_tell_9 rfl rfl ?_
    refine E_cV (ci := 4) (as := [.int x1]) (st := []) cm_X4_has cV_X4_114 ⟨_, _, rfl⟩ (by decide) (lo_28 hL) rfl rfl (by decide) (Nat.le_of_ble_eq_true rfl) (Nat.le_of_ble_eq_true rfl) dX4_tell_10 hB (fun r G1 hr => ?_)
    obtain ⟨r1, rfl, hE1, hB⟩ := hr
    have hL1 : Lay G1.2.2 := by rw [hE1]; exact hL
    have hE1 : G1.2.2 = G.2.2 := hE1
    show Ev K mX4_tell 3 13 [(0, .ref 28), (1, .int x1), (2, .ref h2), (3, .ref t3)] [.int r1] G1 _
    refine E_if_ne (tgt := 17) dX4_tell_13 (by decide) (fun c => ?_) (fun c => ?_)
    · have hB := hB.1 c
      refine E_aload_n 0 dX4_tell_17 rfl rfl rfl ?_
      refine E_iload_n 1 dX4_tell_18 rfl rfl ?_
      refine E_pI fP_X4_42 rfl (lo_28 hL1) dX4_tell_19 ?_
      refine E_aload_n 0 dX4_tell_22 rfl rfl rfl ?_
      refine E_iconst (v := 0) dX4_tell_23 (by decide) ?_
      refine E_pI fP_X4_130 rfl (lo_28 hL1) dX4_tell_24 ?_
      refine E_aload_n 0 dX4_tell_27 rfl rfl rfl ?_
      refine E_gR (j := sR G1 28 2) fG_X4_20 rfl (lo_28 hL1) rfl (lg_28_2 hL1).2.1 dX4_tell_28 ?_
      refine E_iload_n 1 dX4_tell_31 rfl rfl ?_
      obtain ⟨qq2, hB⟩ := hB
      refine E_aI (p := Int32.toNatClampNeg x1) (v := sI (uI (uI G1 28 10 x1) 28 9 0) (sR G1 28 2) (Int32.toNatClampNeg x1)) (lg_28_2 hL1) qq2 rfl rfl dX4_tell_32 ?_
      refine E_istore (lv' := [(0, .ref 28), (1, .int x1), (2, .ref h2), (3, .ref t3), (4, .int (sI (uI (uI G1 28 10 x1) 28 9 0) (sR G1 28 2) (Int32.toNatClampNeg x1)))]) dX4_tell_33 (by decide) rfl ?_
      refine E_iconst (v := 0) dX4_tell_35 (by decide) ?_
      refine E_istore (lv' := [(0, .ref 28), (1, .int x1), (2, .ref h2), (3, .ref t3), (4, .int (sI (uI (uI G1 28 10 x1) 28 9 0) (sR G1 28 2) (Int32.toNatClampNeg x1))), (5, .int 0)]) dX4_tell_36 (by decide) rfl ?_
      refine E_sub (lv' := [(0, .ref 28), (2, .ref h2), (3, .ref t3), (4, .int (sI (uI (uI G1 28 10 x1) 28 9 0) (sR G1 28 2) (Int32.toNatClampNeg x1))), (5, .int 0)]) [0, 2, 3, 4, 5] rfl ?_
      exact EvV.tr hB hE1
    · have hB := hB.2 c
      exact E_vret rfl dX4_tell_16 ⟨rfl, hE1, hB⟩

set_option maxRecDepth 20000 in
set_option maxHeartbeats 2000000 in
theorem kX4_tell_38 {K : KT} {G : St} {Q : St → Prop} {h2 : Nat} {t3 : Nat} {x4 : Int32} {x5 : Int32} (hL : Lay G.2.2) (hh2 : h2 = 39 ∨ h2 = 49) (ht3 : t3 = 59 ∨ t3 = 62)
    (hB : (((sI G h2 9) ≤ x5 → EvV K mX4_put 0 0 [(0, .ref 28), (1, .int 32)] [] G (fun G1 => EvV K mX4_put 0 0 [(0, .ref 28), (1, .int 58)] [] G1 (fun G2 => EvV K mX4_tell 3 106 [(0, .ref 28), (2, .ref h2), (3, .ref t3), (4, .int x4), (5, .int 0)] [] G2 Q))) ∧ (¬ (sI G h2 9) ≤ x5 → EvV K mX4_tell 3 59 [(0, .ref 28), (2, .ref h2), (3, .ref t3), (4, .int x4), (5, .int x5), (6, .int ((x4 >>> ((3 * x5) &&& 31)) &&& 7))] [] G Q))) :
    EvV K mX4_tell 3 38 [(0, .ref 28), (2, .ref h2), (3, .ref t3), (4, .int x4), (5, .int x5)] [] G Q := by
  refine E_iload 4 dX4_tell_38 rfl ?_
  refine E_aload_n 1 dX4_tell_40 rfl rfl rfl ?_
  refine E_gI (v := sI G h2 9) fG_X4_133 rfl (lhO hL hh2) rfl dX4_tell_41 ?_
  refine E_icmp_ge (tgt := 91) dX4_tell_44 (by decide) (fun c => ?_) (fun c => ?_)
  · have hB := hB.1 c
    refine E_aload_n 0 dX4_tell_91 rfl rfl rfl ?_
    refine E_bipush (v := 32) dX4_tell_92 (by decide) ?_
    refine E_cV (ci := 4) (as := [.int 32]) (st := []) cm_X4_put cV_X4_147 ⟨_, _, rfl⟩ (by decide) (lo_28 hL) rfl rfl (by decide) (Nat.le_of_ble_eq_true rfl) (Nat.le_of_ble_eq_true rfl) dX4_tell_94 hB (fun r G1 hr => ?_)
    obtain ⟨rfl, hE1, hB⟩ := hr
    have hL1 : Lay G1.2.2 := by rw [hE1]; exact hL
    have hE1 : G1.2.2 = G.2.2 := hE1
    show Ev K mX4_tell 3 97 [(0, .ref 28), (2, .ref h2), (3, .ref t3), (4, .int x4), (5, .int x5)] [] G1 _
    refine E_aload_n 0 dX4_tell_97 rfl rfl rfl ?_
    refine E_bipush (v := 58) dX4_tell_98 (by decide) ?_
    refine E_cV (ci := 4) (as := [.int 58]) (st := []) cm_X4_put cV_X4_147 ⟨_, _, rfl⟩ (by decide) (lo_28 hL1) rfl rfl (by decide) (Nat.le_of_ble_eq_true rfl) (Nat.le_of_ble_eq_true rfl) dX4_tell_100 hB (fun r G2 hr => ?_)
    obtain ⟨rfl, hE2, hB⟩ := hr
    have hL2 : Lay G2.2.2 := by rw [hE2]; exact hL1
    have hE2 : G2.2.2 = G.2.2 := hE2.trans hE1
    show Ev K mX4_tell 3 103 [(0, .ref 28), (2, .ref h2), (3, .ref t3), (4, .int x4), (5, .int x5)] [] G2 _
    refine E_iconst (v := 0) dX4_tell_103 (by decide) ?_
    refine E_istore (lv' := [(0, .ref 28), (2, .ref h2), (3, .ref t3), (4, .int x4), (5, .int 0)]) dX4_tell_104 (by decide) rfl ?_
    exact EvV.tr hB hE2
  · have hB := hB.2 c
    refine E_iload 3 dX4_tell_47 rfl ?_
    refine E_iconst (v := 3) dX4_tell_49 (by decide) ?_
    refine E_iload 4 dX4_tell_50 rfl ?_
    refine E_imul dX4_tell_52 ?_
    refine E_ishr dX4_tell_53 ?_
    refine E_bipush (v := 7) dX4_tell_54 (by decide) ?_
    refine E_iand dX4_tell_56 ?_
    refine E_istore (lv' := [(0, .ref 28), (2, .ref h2), (3, .ref t3), (4, .int x4), (5, .int x5), (6, .int ((x4 >>> ((3 * x5) &&& 31)) &&& 7))]) dX4_tell_57 (by decide) rfl ?_
    exact EvV.tr hB rfl

set_option maxRecDepth 20000 in
set_option maxHeartbeats 2000000 in
theorem kX4_tell_59 {K : KT} {G : St} {Q : St → Prop} {h2 : Nat} {t3 : Nat} {x4 : Int32} {x5 : Int32} {x6 : Int32} (hL : Lay G.2.2) (hh2 : h2 = 39 ∨ h2 = 49) (ht3 : t3 = 59 ∨ t3 = 62)
    (hB : ((x6 ≤ 0 → EvV K mX4_tell 3 38 [(0, .ref 28), (2, .ref h2), (3, .ref t3), (4, .int x4), (5, .int (x5 + 1))] [] G Q) ∧ (¬ x6 ≤ 0 → EvV K mX4_putComma 1 0 [(0, .ref 28)] [] G (fun G1 => vp_in x5 5 ∧ EvV K mX4_putWord 1 0 [(0, .ref 28), (1, .long (sL G1 (h2 + 1) (Int32.toNatClampNeg x5)))] [] G1 (fun G3 => EvV K mX4_tell 3 59 [(0, .ref 28), (2, .ref h2), (3, .ref t3), (4, .int x4), (5, .int x5), (6, .int (x6 + (-1)))] [] G3 Q))))) :
    EvV K mX4_tell 3 59 [(0, .ref 28), (2, .ref h2), (3, .ref t3), (4, .int x4), (5, .int x5), (6, .int x6)] [] G Q := by
  refine E_iload 5 dX4_tell_59 rfl ?_
  refine E_if_le (tgt := 85) dX4_tell_61 (by decide) (fun c => ?_) (fun c => ?_)
  · have hB := hB.1 c
    refine E_iinc (v := x5 + 1) (lv' := [(0, .ref 28), (2, .ref h2), (3, .ref t3), (4, .int x4), (5, .int (x5 + 1)), (6, .int x6)]) 4 dX4_tell_85 rfl rfl (by decide) rfl ?_
    refine E_goto (tgt := 38) dX4_tell_88 (by decide) ?_
    refine E_sub (lv' := [(0, .ref 28), (2, .ref h2), (3, .ref t3), (4, .int x4), (5, .int (x5 + 1))]) [0, 1, 2, 3, 4] rfl ?_
    exact EvV.tr hB rfl
  · have hB := hB.2 c
    refine E_aload_n 0 dX4_tell_64 rfl rfl rfl ?_
    refine E_cV (ci := 4) (as := []) (st := []) cm_X4_putComma cV_X4_136 ⟨_, _, rfl⟩ (by decide) (lo_28 hL) rfl rfl (by decide) (Nat.le_of_ble_eq_true rfl) (Nat.le_of_ble_eq_true rfl) dX4_tell_65 hB (fun r G1 hr => ?_)
    obtain ⟨rfl, hE1, hB⟩ := hr
    have hL1 : Lay G1.2.2 := by rw [hE1]; exact hL
    have hE1 : G1.2.2 = G.2.2 := hE1
    show Ev K mX4_tell 3 68 [(0, .ref 28), (2, .ref h2), (3, .ref t3), (4, .int x4), (5, .int x5), (6, .int x6)] [] G1 _
    refine E_aload_n 0 dX4_tell_68 rfl rfl rfl ?_
    refine E_aload_n 1 dX4_tell_69 rfl rfl rfl ?_
    refine E_gR (j := h2 + 1) fG_X4_139 rfl (lhO hL1 hh2) (lhR0 hL1 hh2) (Nat.succ_pos _) dX4_tell_70 ?_
    refine E_iload 4 dX4_tell_73 rfl ?_
    obtain ⟨qq2, hB⟩ := hB
    refine E_aL (p := Int32.toNatClampNeg x5) (v := sL G1 (h2 + 1) (Int32.toNatClampNeg x5)) (lhA0 hL1 hh2) qq2 rfl rfl dX4_tell_75 ?_
    refine E_cV (ci := 4) (as := [.long (sL G1 (h2 + 1) (Int32.toNatClampNeg x5))]) (st := []) cm_X4_putWord cV_X4_143 ⟨_, _, rfl⟩ (by decide) (lo_28 hL1) rfl rfl (by decide) (Nat.le_of_ble_eq_true rfl) (Nat.le_of_ble_eq_true rfl) dX4_tell_76 hB (fun r G3 hr => ?_)
    obtain ⟨rfl, hE3, hB⟩ := hr
    have hL3 : Lay G3.2.2 := by rw [hE3]; exact hL1
    have hE3 : G3.2.2 = G.2.2 := hE3.trans hE1
    show Ev K mX4_tell 3 79 [(0, .ref 28), (2, .ref h2), (3, .ref t3), (4, .int x4), (5, .int x5), (6, .int x6)] [] G3 _
    refine E_iinc (v := x6 + (-1)) (lv' := [(0, .ref 28), (2, .ref h2), (3, .ref t3), (4, .int x4), (5, .int x5), (6, .int (x6 + (-1)))]) 5 dX4_tell_79 rfl rfl (by decide) rfl ?_
    refine E_goto (tgt := 59) dX4_tell_82 (by decide) ?_
    exact EvV.tr hB hE3

set_option maxRecDepth 20000 in
set_option maxHeartbeats 2000000 in
theorem kX4_tell_106 {K : KT} {G : St} {Q : St → Prop} {h2 : Nat} {t3 : Nat} {x4 : Int32} {x5 : Int32} (hL : Lay G.2.2) (hh2 : h2 = 39 ∨ h2 = 49) (ht3 : t3 = 59 ∨ t3 = 62)
    (hB : (((sI G t3 2) ≤ x5 → Q G) ∧ (¬ (sI G t3 2) ≤ x5 → ((x5 ≤ 0 → EvV K mX4_put 0 0 [(0, .ref 28), (1, .int 32)] [] G (fun G1 => EvV K mX4_tell 3 133 [(0, .ref 28), (2, .ref h2), (3, .ref t3), (4, .int x4), (5, .int x5)] [] G1 Q)) ∧ (¬ x5 ≤ 0 → EvV K mX4_putComma 1 0 [(0, .ref 28)] [] G (fun G2 => EvV K mX4_tell 3 133 [(0, .ref 28), (2, .ref h2), (3, .ref t3), (4, .int x4), (5, .int x5)] [] G2 Q)))))) :
    EvV K mX4_tell 3 106 [(0, .ref 28), (2, .ref h2), (3, .ref t3), (4, .int x4), (5, .int x5)] [] G Q := by
  refine E_iload 4 dX4_tell_106 rfl ?_
  refine E_aload_n 2 dX4_tell_108 rfl rfl rfl ?_
  refine E_gI (v := sI G t3 2) fG_X4_151 rfl (ltO hL ht3) rfl dX4_tell_109 ?_
  refine E_icmp_ge (tgt := 215) dX4_tell_112 (by decide) (fun c => ?_) (fun c => ?_)
  · have hB := hB.1 c
    exact E_vret rfl dX4_tell_215 ⟨rfl, rfl, hB⟩
  · have hB := hB.2 c
    refine E_iload 4 dX4_tell_115 rfl ?_
    refine E_if_le (tgt := 127) dX4_tell_117 (by decide) (fun c => ?_) (fun c => ?_)
    · have hB := hB.1 c
      refine E_aload_n 0 dX4_tell_127 rfl rfl rfl ?_
      refine E_bipush (v := 32) dX4_tell_128 (by decide) ?_
      refine E_cV (ci := 4) (as := [.int 32]) (st := []) cm_X4_put cV_X4_147 ⟨_, _, rfl⟩ (by decide) (lo_28 hL) rfl rfl (by decide) (Nat.le_of_ble_eq_true rfl) (Nat.le_of_ble_eq_true rfl) dX4_tell_130 hB (fun r G1 hr => ?_)
      obtain ⟨rfl, hE1, hB⟩ := hr
      have hL1 : Lay G1.2.2 := by rw [hE1]; exact hL
      have hE1 : G1.2.2 = G.2.2 := hE1
      show Ev K mX4_tell 3 133 [(0, .ref 28), (2, .ref h2), (3, .ref t3), (4, .int x4), (5, .int x5)] [] G1 _
      exact EvV.tr hB hE1
    · have hB := hB.2 c
      refine E_aload_n 0 dX4_tell_120 rfl rfl rfl ?_
      refine E_cV (ci := 4) (as := []) (st := []) cm_X4_putComma cV_X4_136 ⟨_, _, rfl⟩ (by decide) (lo_28 hL) rfl rfl (by decide) (Nat.le_of_ble_eq_true rfl) (Nat.le_of_ble_eq_true rfl) dX4_tell_121 hB (fun r G2 hr => ?_)
      obtain ⟨rfl, hE2, hB⟩ := hr
      have hL2 : Lay G2.2.2 := by rw [hE2]; exact hL
      have hE2 : G2.2.2 = G.2.2 := hE2
      show Ev K mX4_tell 3 124 [(0, .ref 28), (2, .ref h2), (3, .ref t3), (4, .int x4), (5, .int x5)] [] G2 _
      refine E_goto (tgt := 133) dX4_tell_124 (by decide) ?_
      exact EvV.tr hB hE2

set_option maxRecDepth 20000 in
set_option maxHeartbeats 2000000 in
theorem kX4_tell_133 {K : KT} {G : St} {Q : St → Prop} {h2 : Nat} {t3 : Nat} {x4 : Int32} {x5 : Int32} (hL : Lay G.2.2) (hh2 : h2 = 39 ∨ h2 = 49) (ht3 : t3 = 59 ∨ t3 = 62)
    (hB : vp_in x5 4 ∧ vp_in x5 4 ∧ EvV K mX4_tellTerm 2 0 [(0, .ref 28), (1, .int (sI G (t3 + 1) (Int32.toNatClampNeg x5))), (2, .long (sL G (t3 + 2) (Int32.toNatClampNeg x5)))] [] G (fun G3 => EvV K mX4_put 0 0 [(0, .ref 28), (1, .int 32)] [] G3 (fun G4 => EvV K mX4_putWord 1 0 [(0, .ref 28), (1, .long 411)] [] G4 (fun G5 => EvV K mX4_put 0 0 [(0, .ref 28), (1, .int 32)] [] G5 (fun G6 => (((sI G6 h2 9) ≤ ((x4 >>> ((15 + (3 * x5)) &&& 31)) &&& 7) → EvV K mX4_tell 3 206 [(0, .ref 28), (2, .ref h2), (3, .ref t3), (4, .int x4), (5, .int x5)] [.long 0, .ref 28] G6 Q) ∧ (¬ (sI G6 h2 9) ≤ ((x4 >>> ((15 + (3 * x5)) &&& 31)) &&& 7) → vp_in ((x4 >>> ((15 + (3 * x5)) &&& 31)) &&& 7) 5 ∧ EvV K mX4_tell 3 206 [(0, .ref 28), (2, .ref h2), (3, .ref t3), (4, .int x4), (5, .int x5)] [.long (sL G6 (h2 + 1) (Int32.toNatClampNeg ((x4 >>> ((15 + (3 * x5)) &&& 31)) &&& 7))), .ref 28] G6 Q))))))) :
    EvV K mX4_tell 3 133 [(0, .ref 28), (2, .ref h2), (3, .ref t3), (4, .int x4), (5, .int x5)] [] G Q := by
  refine E_aload_n 0 dX4_tell_133 rfl rfl rfl ?_
  refine E_aload_n 2 dX4_tell_134 rfl rfl rfl ?_
  refine E_gR (j := t3 + 1) fG_X4_156 rfl (ltO hL ht3) (ltR0 hL ht3) (Nat.succ_pos _) dX4_tell_135 ?_
  refine E_iload 4 dX4_tell_138 rfl ?_
  obtain ⟨qq1, hB⟩ := hB
  refine E_aI (p := Int32.toNatClampNeg x5) (v := sI G (t3 + 1) (Int32.toNatClampNeg x5)) (ltA0 hL ht3) qq1 rfl rfl dX4_tell_140 ?_
  refine E_aload_n 2 dX4_tell_141 rfl rfl rfl ?_
  refine E_gR (j := t3 + 2) fG_X4_159 rfl (ltO hL ht3) (ltR1 hL ht3) (Nat.succ_pos _) dX4_tell_142 ?_
  refine E_iload 4 dX4_tell_145 rfl ?_
  obtain ⟨qq2, hB⟩ := hB
  refine E_aL (p := Int32.toNatClampNeg x5) (v := sL G (t3 + 2) (Int32.toNatClampNeg x5)) (ltA1 hL ht3) qq2 rfl rfl dX4_tell_147 ?_
  refine E_cV (ci := 4) (as := [.int (sI G (t3 + 1) (Int32.toNatClampNeg x5)), .long (sL G (t3 + 2) (Int32.toNatClampNeg x5))]) (st := []) cm_X4_tellTerm cV_X4_162 ⟨_, _, rfl⟩ (by decide) (lo_28 hL) rfl rfl (by decide) (Nat.le_of_ble_eq_true rfl) (Nat.le_of_ble_eq_true rfl) dX4_tell_148 hB (fun r G3 hr => ?_)
  obtain ⟨rfl, hE3, hB⟩ := hr
  have hL3 : Lay G3.2.2 := by rw [hE3]; exact hL
  have hE3 : G3.2.2 = G.2.2 := hE3
  show Ev K mX4_tell 3 151 [(0, .ref 28), (2, .ref h2), (3, .ref t3), (4, .int x4), (5, .int x5)] [] G3 _
  refine E_aload_n 0 dX4_tell_151 rfl rfl rfl ?_
  refine E_bipush (v := 32) dX4_tell_152 (by decide) ?_
  refine E_cV (ci := 4) (as := [.int 32]) (st := []) cm_X4_put cV_X4_147 ⟨_, _, rfl⟩ (by decide) (lo_28 hL3) rfl rfl (by decide) (Nat.le_of_ble_eq_true rfl) (Nat.le_of_ble_eq_true rfl) dX4_tell_154 hB (fun r G4 hr => ?_)
  obtain ⟨rfl, hE4, hB⟩ := hr
  have hL4 : Lay G4.2.2 := by rw [hE4]; exact hL3
  have hE4 : G4.2.2 = G.2.2 := hE4.trans hE3
  show Ev K mX4_tell 3 157 [(0, .ref 28), (2, .ref h2), (3, .ref t3), (4, .int x4), (5, .int x5)] [] G4 _
  refine E_aload_n 0 dX4_tell_157 rfl rfl rfl ?_
  refine E_ldc2 (v := 411) tm_1071 dX4_tell_158 ?_
  refine E_cV (ci := 4) (as := [.long 411]) (st := []) cm_X4_putWord cV_X4_143 ⟨_, _, rfl⟩ (by decide) (lo_28 hL4) rfl rfl (by decide) (Nat.le_of_ble_eq_true rfl) (Nat.le_of_ble_eq_true rfl) dX4_tell_161 hB (fun r G5 hr => ?_)
  obtain ⟨rfl, hE5, hB⟩ := hr
  have hL5 : Lay G5.2.2 := by rw [hE5]; exact hL4
  have hE5 : G5.2.2 = G.2.2 := hE5.trans hE4
  show Ev K mX4_tell 3 164 [(0, .ref 28), (2, .ref h2), (3, .ref t3), (4, .int x4), (5, .int x5)] [] G5 _
  refine E_aload_n 0 dX4_tell_164 rfl rfl rfl ?_
  refine E_bipush (v := 32) dX4_tell_165 (by decide) ?_
  refine E_cV (ci := 4) (as := [.int 32]) (st := []) cm_X4_put cV_X4_147 ⟨_, _, rfl⟩ (by decide) (lo_28 hL5) rfl rfl (by decide) (Nat.le_of_ble_eq_true rfl) (Nat.le_of_ble_eq_true rfl) dX4_tell_167 hB (fun r G6 hr => ?_)
  obtain ⟨rfl, hE6, hB⟩ := hr
  have hL6 : Lay G6.2.2 := by rw [hE6]; exact hL5
  have hE6 : G6.2.2 = G.2.2 := hE6.trans hE5
  show Ev K mX4_tell 3 170 [(0, .ref 28), (2, .ref h2), (3, .ref t3), (4, .int x4), (5, .int x5)] [] G6 _
  refine E_iload 3 dX4_tell_170 rfl ?_
  refine E_bipush (v := 15) dX4_tell_172 (by decide) ?_
  refine E_iconst (v := 3) dX4_tell_174 (by decide) ?_
  refine E_iload 4 dX4_tell_175 rfl ?_
  refine E_imul dX4_tell_177 ?_
  refine E_iadd dX4_tell_178 ?_
  refine E_ishr dX4_tell_179 ?_
  refine E_bipush (v := 7) dX4_tell_180 (by decide) ?_
  refine E_iand dX4_tell_182 ?_
  refine E_istore (lv' := [(0, .ref 28), (2, .ref h2), (3, .ref t3), (4, .int x4), (5, .int x5), (6, .int ((x4 >>> ((15 + (3 * x5)) &&& 31)) &&& 7))]) dX4_tell_183 (by decide) rfl ?_
  refine E_aload_n 0 dX4_tell_185 rfl rfl rfl ?_
  refine E_iload 5 dX4_tell_186 rfl ?_
  refine E_aload_n 1 dX4_tell_188 rfl rfl rfl ?_
  refine E_gI (v := sI G6 h2 9) fG_X4_133 rfl (lhO hL6 hh2) rfl dX4_tell_189 ?_
  refine E_icmp_ge (tgt := 205) dX4_tell_192 (by decide) (fun c => ?_) (fun c => ?_)
  · have hB := hB.1 c
    refine E_lconst (v := 0) dX4_tell_205 (by decide) ?_
    refine E_sub (lv' := [(0, .ref 28), (2, .ref h2), (3, .ref t3), (4, .int x4), (5, .int x5)]) [0, 1, 2, 3, 4] rfl ?_
    exact EvV.tr hB hE6
  · have hB := hB.2 c
    refine E_aload_n 1 dX4_tell_195 rfl rfl rfl ?_
    refine E_gR (j := h2 + 1) fG_X4_139 rfl (lhO hL6 hh2) (lhR0 hL6 hh2) (Nat.succ_pos _) dX4_tell_196 ?_
    refine E_iload 5 dX4_tell_199 rfl ?_
    obtain ⟨qq7, hB⟩ := hB
    refine E_aL (p := Int32.toNatClampNeg ((x4 >>> ((15 + (3 * x5)) &&& 31)) &&& 7)) (v := sL G6 (h2 + 1) (Int32.toNatClampNeg ((x4 >>> ((15 + (3 * x5)) &&& 31)) &&& 7))) (lhA0 hL6 hh2) qq7 rfl rfl dX4_tell_201 ?_
    refine E_goto (tgt := 206) dX4_tell_202 (by decide) ?_
    refine E_sub (lv' := [(0, .ref 28), (2, .ref h2), (3, .ref t3), (4, .int x4), (5, .int x5)]) [0, 1, 2, 3, 4] rfl ?_
    exact EvV.tr hB hE6

set_option maxRecDepth 20000 in
set_option maxHeartbeats 2000000 in
theorem kX4_tell_206 {K : KT} {G : St} {Q : St → Prop} {h2 : Nat} {t3 : Nat} {x4 : Int32} {x5 : Int32} {ys1 : Int64} (hL : Lay G.2.2) (hh2 : h2 = 39 ∨ h2 = 49) (ht3 : t3 = 59 ∨ t3 = 62)
    (hB : EvV K mX4_putWord 1 0 [(0, .ref 28), (1, .long ys1)] [] G (fun G1 => EvV K mX4_tell 3 106 [(0, .ref 28), (2, .ref h2), (3, .ref t3), (4, .int x4), (5, .int (x5 + 1))] [] G1 Q)) :
    EvV K mX4_tell 3 206 [(0, .ref 28), (2, .ref h2), (3, .ref t3), (4, .int x4), (5, .int x5)] [.long ys1, .ref 28] G Q := by
  refine E_cV (ci := 4) (as := [.long ys1]) (st := []) cm_X4_putWord cV_X4_143 ⟨_, _, rfl⟩ (by decide) (lo_28 hL) rfl rfl (by decide) (Nat.le_of_ble_eq_true rfl) (Nat.le_of_ble_eq_true rfl) dX4_tell_206 hB (fun r G1 hr => ?_)
  obtain ⟨rfl, hE1, hB⟩ := hr
  have hL1 : Lay G1.2.2 := by rw [hE1]; exact hL
  have hE1 : G1.2.2 = G.2.2 := hE1
  show Ev K mX4_tell 3 209 [(0, .ref 28), (2, .ref h2), (3, .ref t3), (4, .int x4), (5, .int x5)] [] G1 _
  refine E_iinc (v := x5 + 1) (lv' := [(0, .ref 28), (2, .ref h2), (3, .ref t3), (4, .int x4), (5, .int (x5 + 1))]) 4 dX4_tell_209 rfl rfl (by decide) rfl ?_
  refine E_goto (tgt := 106) dX4_tell_212 (by decide) ?_
  exact EvV.tr hB hE1

set_option maxRecDepth 20000 in
set_option maxHeartbeats 2000000 in
theorem kX4_sentenceLength_0 {K : KT} {G : St} {Q : Int32 → St → Prop} {x1 : Int32} {h2 : Nat} {t3 : Nat} (hL : Lay G.2.2) (hh2 : h2 = 39 ∨ h2 = 49) (ht3 : t3 = 59 ∨ t3 = 62)
    (hB : EvV K mX4_tell 3 0 [(0, .ref 28), (1, .int x1), (2, .ref h2), (3, .ref t3)] [] G (fun G1 => Q (sI G1 28 9) G1)) :
    EvI K mX4_sentenceLength 4 0 [(0, .ref 28), (1, .int x1), (2, .ref h2), (3, .ref t3)] [] G Q := by
  refine E_aload_n 0 dX4_sentenceLength_0 rfl rfl rfl ?_
  refine E_iload_n 1 dX4_sentenceLength_1 rfl rfl ?_
  refine E_aload_n 2 dX4_sentenceLength_2 rfl rfl rfl ?_
  refine E_aload_n 3 dX4_sentenceLength_3 rfl rfl rfl ?_
  refine E_cV (ci := 4) (as := [.int x1, .ref h2, .ref t3]) (st := []) cm_X4_tell cV_X4_126 ⟨_, _, rfl⟩ (by decide) (lo_28 hL) rfl rfl (by decide) (Nat.le_of_ble_eq_true rfl) (Nat.le_of_ble_eq_true rfl) dX4_sentenceLength_4 hB (fun r G1 hr => ?_)
  obtain ⟨rfl, hE1, hB⟩ := hr
  have hL1 : Lay G1.2.2 := by rw [hE1]; exact hL
  have hE1 : G1.2.2 = G.2.2 := hE1
  show Ev K mX4_sentenceLength 4 7 [(0, .ref 28), (1, .int x1), (2, .ref h2), (3, .ref t3)] [] G1 _
  refine E_aload_n 0 dX4_sentenceLength_7 rfl rfl rfl ?_
  refine E_gI (v := sI G1 28 9) fG_X4_130 rfl (lo_28 hL1) rfl dX4_sentenceLength_8 ?_
  exact E_iret rfl dX4_sentenceLength_11 ⟨_, rfl, hE1, hB⟩

set_option maxRecDepth 20000 in
set_option maxHeartbeats 2000000 in
theorem kX4_sentenceSign_0 {K : KT} {G : St} {Q : Int32 → St → Prop} {x1 : Int32} {x2 : Int32} {h3 : Nat} {t4 : Nat} (hL : Lay G.2.2) (hh3 : h3 = 39 ∨ h3 = 49) (ht4 : t4 = 59 ∨ t4 = 62)
    (hB : EvV K mX4_tell 3 0 [(0, .ref 28), (1, .int x1), (2, .ref h3), (3, .ref t4)] [] G (fun G1 => ((x2 < 0 → Q (-1) G1) ∧ (¬ x2 < 0 → (((sI G1 28 9) ≤ x2 → Q (-1) G1) ∧ (¬ (sI G1 28 9) ≤ x2 → vp_in x2 200 ∧ Q (sI G1 37 (Int32.toNatClampNeg x2)) G1)))))) :
    EvI K mX4_sentenceSign 4 0 [(0, .ref 28), (1, .int x1), (2, .int x2), (3, .ref h3), (4, .ref t4)] [] G Q := by
  refine E_aload_n 0 dX4_sentenceSign_0 rfl rfl rfl ?_
  refine E_iload_n 1 dX4_sentenceSign_1 rfl rfl ?_
  refine E_aload_n 3 dX4_sentenceSign_2 rfl rfl rfl ?_
  refine E_aload 4 dX4_sentenceSign_3 rfl rfl ?_
  refine E_cV (ci := 4) (as := [.int x1, .ref h3, .ref t4]) (st := []) cm_X4_tell cV_X4_126 ⟨_, _, rfl⟩ (by decide) (lo_28 hL) rfl rfl (by decide) (Nat.le_of_ble_eq_true rfl) (Nat.le_of_ble_eq_true rfl) dX4_sentenceSign_5 hB (fun r G1 hr => ?_)
  obtain ⟨rfl, hE1, hB⟩ := hr
  have hL1 : Lay G1.2.2 := by rw [hE1]; exact hL
  have hE1 : G1.2.2 = G.2.2 := hE1
  show Ev K mX4_sentenceSign 4 8 [(0, .ref 28), (1, .int x1), (2, .int x2), (3, .ref h3), (4, .ref t4)] [] G1 _
  refine E_iload_n 2 dX4_sentenceSign_8 rfl rfl ?_
  refine E_if_lt (tgt := 29) dX4_sentenceSign_9 (by decide) (fun c => ?_) (fun c => ?_)
  · have hB := hB.1 c
    refine E_iconst (v := (-1)) dX4_sentenceSign_29 (by decide) ?_
    exact E_iret rfl dX4_sentenceSign_30 ⟨_, rfl, hE1, hB⟩
  · have hB := hB.2 c
    refine E_iload_n 2 dX4_sentenceSign_12 rfl rfl ?_
    refine E_aload_n 0 dX4_sentenceSign_13 rfl rfl rfl ?_
    refine E_gI (v := sI G1 28 9) fG_X4_130 rfl (lo_28 hL1) rfl dX4_sentenceSign_14 ?_
    refine E_icmp_ge (tgt := 29) dX4_sentenceSign_17 (by decide) (fun c => ?_) (fun c => ?_)
    · have hB := hB.1 c
      refine E_iconst (v := (-1)) dX4_sentenceSign_29 (by decide) ?_
      exact E_iret rfl dX4_sentenceSign_30 ⟨_, rfl, hE1, hB⟩
    · have hB := hB.2 c
      refine E_aload_n 0 dX4_sentenceSign_20 rfl rfl rfl ?_
      refine E_gR (j := 37) fG_X4_38 rfl (lo_28 hL1) (lr_28_8 hL1) (by decide) dX4_sentenceSign_21 ?_
      refine E_iload_n 2 dX4_sentenceSign_24 rfl rfl ?_
      obtain ⟨qq2, hB⟩ := hB
      refine E_aB (p := Int32.toNatClampNeg x2) (v := sI G1 37 (Int32.toNatClampNeg x2)) (la_37 hL1) qq2 rfl rfl dX4_sentenceSign_25 ?_
      refine E_goto (tgt := 30) dX4_sentenceSign_26 (by decide) ?_
      exact E_iret rfl dX4_sentenceSign_30 ⟨_, rfl, hE1, hB⟩

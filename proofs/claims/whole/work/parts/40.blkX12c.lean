set_option maxRecDepth 20000 in
set_option maxHeartbeats 2000000 in
theorem kX12_left_0 {K : KT} {G : St} {Q : Int32 → St → Prop}  (hL : Lay G.2.2) 
    (hB : EvV K mX12_findAll 5 0 [(0, .ref 66)] [] (uI G 66 0 0) (fun G1 => (((sI G1 66 20) = 0 → Q (-1) G1) ∧ (¬ (sI G1 66 20) = 0 → (((sI G1 66 38) ≤ 0 → EvI K mX12_left 6 38 [(0, .ref 66), (1, .int ((1 <<< ((sI G1 66 20) &&& 31)) - 1)), (2, .int (-1)), (3, .int 1)] [] G1 Q) ∧ (¬ (sI G1 66 38) ≤ 0 → Q (-1) G1)))))) :
    EvI K mX12_left 6 0 [(0, .ref 66)] [] G Q := by
  refine E_aload_n 0 dX12_left_0 rfl rfl rfl ?_
  refine E_iconst (v := 0) dX12_left_1 (by decide) ?_
  refine E_pI fP_X12_1 rfl (lo_66 hL) dX12_left_2 ?_
  refine E_aload_n 0 dX12_left_5 rfl rfl rfl ?_
  refine E_cV (ci := 11) (as := []) (st := []) cm_X12_findAll cV_X12_271 ⟨_, _, rfl⟩ (by decide) (lo_66 hL) rfl rfl (by decide) (Nat.le_of_ble_eq_true rfl) (Nat.le_of_ble_eq_true rfl) dX12_left_6 hB (fun r G1 hr => ?_)
  obtain ⟨rfl, hE1, hB⟩ := hr
  have hL1 : Lay G1.2.2 := by rw [hE1]; exact hL
  have hE1 : G1.2.2 = G.2.2 := hE1
  show Ev K mX12_left 6 9 [(0, .ref 66)] [] G1 _
  refine E_aload_n 0 dX12_left_9 rfl rfl rfl ?_
  refine E_gI (v := sI G1 66 20) fG_X12_226 rfl (lo_66 hL1) rfl dX12_left_10 ?_
  refine E_if_eq (tgt := 23) dX12_left_13 (by decide) (fun c => ?_) (fun c => ?_)
  · have hB := hB.1 c
    refine E_iconst (v := (-1)) dX12_left_23 (by decide) ?_
    exact E_iret rfl dX12_left_24 ⟨_, rfl, hE1, hB⟩
  · have hB := hB.2 c
    refine E_aload_n 0 dX12_left_16 rfl rfl rfl ?_
    refine E_gI (v := sI G1 66 38) fG_X12_366 rfl (lo_66 hL1) rfl dX12_left_17 ?_
    refine E_if_le (tgt := 25) dX12_left_20 (by decide) (fun c => ?_) (fun c => ?_)
    · have hB := hB.1 c
      refine E_iconst (v := 1) dX12_left_25 (by decide) ?_
      refine E_aload_n 0 dX12_left_26 rfl rfl rfl ?_
      refine E_gI (v := sI G1 66 20) fG_X12_226 rfl (lo_66 hL1) rfl dX12_left_27 ?_
      refine E_ishl dX12_left_30 ?_
      refine E_iconst (v := 1) dX12_left_31 (by decide) ?_
      refine E_isub dX12_left_32 ?_
      refine E_istore_n (lv' := [(0, .ref 66), (1, .int ((1 <<< ((sI G1 66 20) &&& 31)) - 1))]) dX12_left_33 rfl (by decide) rfl ?_
      refine E_iconst (v := (-1)) dX12_left_34 (by decide) ?_
      refine E_istore_n (lv' := [(0, .ref 66), (1, .int ((1 <<< ((sI G1 66 20) &&& 31)) - 1)), (2, .int (-1))]) dX12_left_35 rfl (by decide) rfl ?_
      refine E_iconst (v := 1) dX12_left_36 (by decide) ?_
      refine E_istore_n (lv' := [(0, .ref 66), (1, .int ((1 <<< ((sI G1 66 20) &&& 31)) - 1)), (2, .int (-1)), (3, .int 1)]) dX12_left_37 rfl (by decide) rfl ?_
      exact EvI.tr hB hE1
    · have hB := hB.2 c
      refine E_iconst (v := (-1)) dX12_left_23 (by decide) ?_
      exact E_iret rfl dX12_left_24 ⟨_, rfl, hE1, hB⟩

set_option maxRecDepth 20000 in
set_option maxHeartbeats 2000000 in
theorem kX12_left_38 {K : KT} {G : St} {Q : Int32 → St → Prop} {x1 : Int32} {x2 : Int32} {x3 : Int32} (hL : Lay G.2.2) 
    (hB : ((x1 ≤ x3 → Q x2 G) ∧ (¬ x1 ≤ x3 → ((x2 < 0 → EvI K mX12_left 6 58 [(0, .ref 66), (1, .int x1), (2, .int x2), (3, .int x3)] [] G Q) ∧ (¬ x2 < 0 → EvI K mX12_bits 0 0 [(0, .int x3)] [] G (fun r1 G1 => EvI K mX12_bits 0 0 [(0, .int x2)] [] G1 (fun r2 G2 => ((r2 ≤ r1 → EvI K mX12_left 6 72 [(0, .ref 66), (1, .int x1), (2, .int x2), (3, .int x3)] [] G2 Q) ∧ (¬ r2 ≤ r1 → EvI K mX12_left 6 58 [(0, .ref 66), (1, .int x1), (2, .int x2), (3, .int x3)] [] G2 Q))))))))) :
    EvI K mX12_left 6 38 [(0, .ref 66), (1, .int x1), (2, .int x2), (3, .int x3)] [] G Q := by
  refine E_iload_n 3 dX12_left_38 rfl rfl ?_
  refine E_iload_n 1 dX12_left_39 rfl rfl ?_
  refine E_icmp_ge (tgt := 78) dX12_left_40 (by decide) (fun c => ?_) (fun c => ?_)
  · have hB := hB.1 c
    refine E_iload_n 2 dX12_left_78 rfl rfl ?_
    exact E_iret rfl dX12_left_79 ⟨_, rfl, rfl, hB⟩
  · have hB := hB.2 c
    refine E_iload_n 2 dX12_left_43 rfl rfl ?_
    refine E_if_lt (tgt := 58) dX12_left_44 (by decide) (fun c => ?_) (fun c => ?_)
    · have hB := hB.1 c
      exact EvI.tr hB rfl
    · have hB := hB.2 c
      refine E_iload_n 3 dX12_left_47 rfl rfl ?_
      refine E_callS (as := [.int x3]) (st := []) cm_X12_bits cS_X12_456 rfl rfl (by decide) (Nat.le_of_ble_eq_true rfl) (Nat.le_of_ble_eq_true rfl) dX12_left_48 hB (fun r G1 hr => ?_)
      obtain ⟨r1, rfl, hE1, hB⟩ := hr
      have hL1 : Lay G1.2.2 := by rw [hE1]; exact hL
      have hE1 : G1.2.2 = G.2.2 := hE1
      show Ev K mX12_left 6 51 [(0, .ref 66), (1, .int x1), (2, .int x2), (3, .int x3)] [.int r1] G1 _
      refine E_iload_n 2 dX12_left_51 rfl rfl ?_
      refine E_callS (as := [.int x2]) (st := [.int r1]) cm_X12_bits cS_X12_456 rfl rfl (by decide) (Nat.le_of_ble_eq_true rfl) (Nat.le_of_ble_eq_true rfl) dX12_left_52 hB (fun r G2 hr => ?_)
      obtain ⟨r2, rfl, hE2, hB⟩ := hr
      have hL2 : Lay G2.2.2 := by rw [hE2]; exact hL1
      have hE2 : G2.2.2 = G.2.2 := hE2.trans hE1
      show Ev K mX12_left 6 55 [(0, .ref 66), (1, .int x1), (2, .int x2), (3, .int x3)] [.int r2, .int r1] G2 _
      refine E_icmp_ge (tgt := 72) dX12_left_55 (by decide) (fun c => ?_) (fun c => ?_)
      · have hB := hB.1 c
        exact EvI.tr hB hE2
      · have hB := hB.2 c
        exact EvI.tr hB hE2

set_option maxRecDepth 20000 in
set_option maxHeartbeats 2000000 in
theorem kX12_left_58 {K : KT} {G : St} {Q : Int32 → St → Prop} {x1 : Int32} {x2 : Int32} {x3 : Int32} (hL : Lay G.2.2) 
    (hB : EvI K mX12_isHeld 2 0 [(0, .ref 66), (1, .int (x1 &&& (x3 ^^^ (-1))))] [] G (fun r1 G1 => ((r1 = 0 → EvI K mX12_left 6 72 [(0, .ref 66), (1, .int x1), (2, .int x2), (3, .int x3)] [] G1 Q) ∧ (¬ r1 = 0 → EvI K mX12_left 6 72 [(0, .ref 66), (1, .int x1), (2, .int x3), (3, .int x3)] [] G1 Q)))) :
    EvI K mX12_left 6 58 [(0, .ref 66), (1, .int x1), (2, .int x2), (3, .int x3)] [] G Q := by
  refine E_aload_n 0 dX12_left_58 rfl rfl rfl ?_
  refine E_iload_n 1 dX12_left_59 rfl rfl ?_
  refine E_iload_n 3 dX12_left_60 rfl rfl ?_
  refine E_iconst (v := (-1)) dX12_left_61 (by decide) ?_
  refine E_ixor dX12_left_62 ?_
  refine E_iand dX12_left_63 ?_
  refine E_cV (ci := 11) (as := [.int (x1 &&& (x3 ^^^ (-1)))]) (st := []) cm_X12_isHeld cV_X12_459 ⟨_, _, rfl⟩ (by decide) (lo_66 hL) rfl rfl (by decide) (Nat.le_of_ble_eq_true rfl) (Nat.le_of_ble_eq_true rfl) dX12_left_64 hB (fun r G1 hr => ?_)
  obtain ⟨r1, rfl, hE1, hB⟩ := hr
  have hL1 : Lay G1.2.2 := by rw [hE1]; exact hL
  have hE1 : G1.2.2 = G.2.2 := hE1
  show Ev K mX12_left 6 67 [(0, .ref 66), (1, .int x1), (2, .int x2), (3, .int x3)] [.int r1] G1 _
  refine E_if_eq (tgt := 72) dX12_left_67 (by decide) (fun c => ?_) (fun c => ?_)
  · have hB := hB.1 c
    exact EvI.tr hB hE1
  · have hB := hB.2 c
    refine E_iload_n 3 dX12_left_70 rfl rfl ?_
    refine E_istore_n (lv' := [(0, .ref 66), (1, .int x1), (2, .int x3), (3, .int x3)]) dX12_left_71 rfl (by decide) rfl ?_
    exact EvI.tr hB hE1

set_option maxRecDepth 20000 in
set_option maxHeartbeats 2000000 in
theorem kX12_left_72 {K : KT} {G : St} {Q : Int32 → St → Prop} {x1 : Int32} {x2 : Int32} {x3 : Int32} (hL : Lay G.2.2) 
    (hB : EvI K mX12_left 6 38 [(0, .ref 66), (1, .int x1), (2, .int x2), (3, .int (x3 + 1))] [] G Q) :
    EvI K mX12_left 6 72 [(0, .ref 66), (1, .int x1), (2, .int x2), (3, .int x3)] [] G Q := by
  refine E_iinc (v := x3 + 1) (lv' := [(0, .ref 66), (1, .int x1), (2, .int x2), (3, .int (x3 + 1))]) 3 dX12_left_72 rfl rfl (by decide) rfl ?_
  refine E_goto (tgt := 38) dX12_left_75 (by decide) ?_
  exact EvI.tr hB rfl

set_option maxRecDepth 20000 in
set_option maxHeartbeats 2000000 in
theorem kX12_meant_0 {K : KT} {G : St} {Q : Int32 → St → Prop} {x1 : Int32} (hL : Lay G.2.2) 
    (hB : (((sI G 66 20) = 0 → Q (-1) (uI G 66 0 0)) ∧ (¬ (sI G 66 20) = 0 → (((sI G 66 54) = 40 → Q (-1) (uI G 66 0 0)) ∧ (¬ (sI G 66 54) = 40 → ((x1 ≤ 0 → Q (-1) (uI G 66 0 0)) ∧ (¬ x1 ≤ 0 → ((x1 < (1 <<< ((sI G 66 16) &&& 31)) → EvV K mX12_findAll 5 0 [(0, .ref 66)] [] (uI G 66 0 0) (fun G1 => vp_in (sI G1 66 54) 40 ∧ vp_in (sI G1 66 54) 40 ∧ EvI K mX12_meant 6 63 [(0, .ref 66), (1, .int x1), (2, .int 0)] [] (uI (uI G1 101 (Int32.toNatClampNeg (sI G1 66 54)) 0) 102 (Int32.toNatClampNeg (sI G1 66 54)) 0) Q)) ∧ (¬ x1 < (1 <<< ((sI G 66 16) &&& 31)) → Q (-1) (uI G 66 0 0)))))))))) :
    EvI K mX12_meant 6 0 [(0, .ref 66), (1, .int x1)] [] G Q := by
  refine E_aload_n 0 dX12_meant_0 rfl rfl rfl ?_
  refine E_iconst (v := 0) dX12_meant_1 (by decide) ?_
  refine E_pI fP_X12_1 rfl (lo_66 hL) dX12_meant_2 ?_
  refine E_aload_n 0 dX12_meant_5 rfl rfl rfl ?_
  refine E_gI (v := sI G 66 20) fG_X12_226 rfl (lo_66 hL) rfl dX12_meant_6 ?_
  refine E_if_eq (tgt := 35) dX12_meant_9 (by decide) (fun c => ?_) (fun c => ?_)
  · have hB := hB.1 c
    refine E_iconst (v := (-1)) dX12_meant_35 (by decide) ?_
    exact E_iret rfl dX12_meant_36 ⟨_, rfl, rfl, hB⟩
  · have hB := hB.2 c
    refine E_aload_n 0 dX12_meant_12 rfl rfl rfl ?_
    refine E_gI (v := sI G 66 54) fG_X12_232 rfl (lo_66 hL) rfl dX12_meant_13 ?_
    refine E_bipush (v := 40) dX12_meant_16 (by decide) ?_
    refine E_icmp_eq (tgt := 35) dX12_meant_18 (by decide) (fun c => ?_) (fun c => ?_)
    · have hB := hB.1 c
      refine E_iconst (v := (-1)) dX12_meant_35 (by decide) ?_
      exact E_iret rfl dX12_meant_36 ⟨_, rfl, rfl, hB⟩
    · have hB := hB.2 c
      refine E_iload_n 1 dX12_meant_21 rfl rfl ?_
      refine E_if_le (tgt := 35) dX12_meant_22 (by decide) (fun c => ?_) (fun c => ?_)
      · have hB := hB.1 c
        refine E_iconst (v := (-1)) dX12_meant_35 (by decide) ?_
        exact E_iret rfl dX12_meant_36 ⟨_, rfl, rfl, hB⟩
      · have hB := hB.2 c
        refine E_iload_n 1 dX12_meant_25 rfl rfl ?_
        refine E_iconst (v := 1) dX12_meant_26 (by decide) ?_
        refine E_aload_n 0 dX12_meant_27 rfl rfl rfl ?_
        refine E_gI (v := sI G 66 16) fG_X12_223 rfl (lo_66 hL) rfl dX12_meant_28 ?_
        refine E_ishl dX12_meant_31 ?_
        refine E_icmp_lt (tgt := 37) dX12_meant_32 (by decide) (fun c => ?_) (fun c => ?_)
        · have hB := hB.1 c
          refine E_aload_n 0 dX12_meant_37 rfl rfl rfl ?_
          refine E_cV (ci := 11) (as := []) (st := []) cm_X12_findAll cV_X12_271 ⟨_, _, rfl⟩ (by decide) (lo_66 hL) rfl rfl (by decide) (Nat.le_of_ble_eq_true rfl) (Nat.le_of_ble_eq_true rfl) dX12_meant_38 hB (fun r G1 hr => ?_)
          obtain ⟨rfl, hE1, hB⟩ := hr
          have hL1 : Lay G1.2.2 := by rw [hE1]; exact hL
          have hE1 : G1.2.2 = G.2.2 := hE1
          show Ev K mX12_meant 6 41 [(0, .ref 66), (1, .int x1)] [] G1 _
          refine E_aload_n 0 dX12_meant_41 rfl rfl rfl ?_
          refine E_gR (j := 101) fG_X12_143 rfl (lo_66 hL1) (lr_66_55 hL1) (by decide) dX12_meant_42 ?_
          refine E_aload_n 0 dX12_meant_45 rfl rfl rfl ?_
          refine E_gI (v := sI G1 66 54) fG_X12_232 rfl (lo_66 hL1) rfl dX12_meant_46 ?_
          refine E_iconst (v := 0) dX12_meant_49 (by decide) ?_
          obtain ⟨qq2, hB⟩ := hB
          refine E_sZ (p := Int32.toNatClampNeg (sI G1 66 54)) (la_101 hL1) qq2 (Or.inl rfl) rfl dX12_meant_50 ?_
          refine E_aload_n 0 dX12_meant_51 rfl rfl rfl ?_
          refine E_gR (j := 102) fG_X12_146 rfl (lo_66 hL1) (lr_66_56 hL1) (by decide) dX12_meant_52 ?_
          refine E_aload_n 0 dX12_meant_55 rfl rfl rfl ?_
          refine E_gI (v := sI G1 66 54) fG_X12_232 rfl (lo_66 hL1) rfl dX12_meant_56 ?_
          refine E_iconst (v := 0) dX12_meant_59 (by decide) ?_
          obtain ⟨qq3, hB⟩ := hB
          refine E_sZ (p := Int32.toNatClampNeg (sI G1 66 54)) (la_102 hL1) qq3 (Or.inl rfl) rfl dX12_meant_60 ?_
          refine E_iconst (v := 0) dX12_meant_61 (by decide) ?_
          refine E_istore_n (lv' := [(0, .ref 66), (1, .int x1), (2, .int 0)]) dX12_meant_62 rfl (by decide) rfl ?_
          exact EvI.tr hB hE1
        · have hB := hB.2 c
          refine E_iconst (v := (-1)) dX12_meant_35 (by decide) ?_
          exact E_iret rfl dX12_meant_36 ⟨_, rfl, rfl, hB⟩

set_option maxRecDepth 20000 in
set_option maxHeartbeats 2000000 in
theorem kX12_meant_63 {K : KT} {G : St} {Q : Int32 → St → Prop} {x1 : Int32} {x2 : Int32} (hL : Lay G.2.2) 
    (hB : (((sI G 66 38) ≤ x2 → Q (((sI G 66 54) + 1) - 1) (uI G 66 54 ((sI G 66 54) + 1))) ∧ (¬ (sI G 66 38) ≤ x2 → vp_in x2 175000 ∧ vp_in (sI G 92 (Int32.toNatClampNeg x2)) 175000 ∧ ((¬ (sI G 90 (Int32.toNatClampNeg (sI G 92 (Int32.toNatClampNeg x2)))) = x1 → EvI K mX12_meant 6 91 [(0, .ref 66), (1, .int x1), (2, .int x2)] [.int 0] G Q) ∧ ((sI G 90 (Int32.toNatClampNeg (sI G 92 (Int32.toNatClampNeg x2)))) = x1 → EvI K mX12_meant 6 91 [(0, .ref 66), (1, .int x1), (2, .int x2)] [.int 1] G Q))))) :
    EvI K mX12_meant 6 63 [(0, .ref 66), (1, .int x1), (2, .int x2)] [] G Q := by
  refine E_iload_n 2 dX12_meant_63 rfl rfl ?_
  refine E_aload_n 0 dX12_meant_64 rfl rfl rfl ?_
  refine E_gI (v := sI G 66 38) fG_X12_366 rfl (lo_66 hL) rfl dX12_meant_65 ?_
  refine E_icmp_ge (tgt := 163) dX12_meant_68 (by decide) (fun c => ?_) (fun c => ?_)
  · have hB := hB.1 c
    refine E_aload_n 0 dX12_meant_163 rfl rfl rfl ?_
    refine E_dup dX12_meant_164 rfl ?_
    refine E_gI (v := sI G 66 54) fG_X12_232 rfl (lo_66 hL) rfl dX12_meant_165 ?_
    refine E_iconst (v := 1) dX12_meant_168 (by decide) ?_
    refine E_iadd dX12_meant_169 ?_
    refine E_pI fP_X12_232 rfl (lo_66 hL) dX12_meant_170 ?_
    refine E_aload_n 0 dX12_meant_173 rfl rfl rfl ?_
    refine E_gI (v := (sI G 66 54) + 1) fG_X12_232 rfl (lo_66 hL) rfl dX12_meant_174 ?_
    refine E_iconst (v := 1) dX12_meant_177 (by decide) ?_
    refine E_isub dX12_meant_178 ?_
    exact E_iret rfl dX12_meant_179 ⟨_, rfl, rfl, hB⟩
  · have hB := hB.2 c
    refine E_aload_n 0 dX12_meant_71 rfl rfl rfl ?_
    refine E_gR (j := 90) fG_X12_109 rfl (lo_66 hL) (lr_66_39 hL) (by decide) dX12_meant_72 ?_
    refine E_aload_n 0 dX12_meant_75 rfl rfl rfl ?_
    refine E_gR (j := 92) fG_X12_115 rfl (lo_66 hL) (lr_66_41 hL) (by decide) dX12_meant_76 ?_
    refine E_iload_n 2 dX12_meant_79 rfl rfl ?_
    obtain ⟨qq1, hB⟩ := hB
    refine E_aI (p := Int32.toNatClampNeg x2) (v := sI G 92 (Int32.toNatClampNeg x2)) (la_92 hL) qq1 rfl rfl dX12_meant_80 ?_
    obtain ⟨qq2, hB⟩ := hB
    refine E_aI (p := Int32.toNatClampNeg (sI G 92 (Int32.toNatClampNeg x2))) (v := sI G 90 (Int32.toNatClampNeg (sI G 92 (Int32.toNatClampNeg x2)))) (la_90 hL) qq2 rfl rfl dX12_meant_81 ?_
    refine E_iload_n 1 dX12_meant_82 rfl rfl ?_
    refine E_icmp_ne (tgt := 90) dX12_meant_83 (by decide) (fun c => ?_) (fun c => ?_)
    · have hB := hB.1 c
      refine E_iconst (v := 0) dX12_meant_90 (by decide) ?_
      exact EvI.tr hB rfl
    · have hB := hB.2 c
      refine E_iconst (v := 1) dX12_meant_86 (by decide) ?_
      refine E_goto (tgt := 91) dX12_meant_87 (by decide) ?_
      exact EvI.tr hB rfl

set_option maxRecDepth 20000 in
set_option maxHeartbeats 2000000 in
theorem kX12_meant_91 {K : KT} {G : St} {Q : Int32 → St → Prop} {x1 : Int32} {x2 : Int32} {xs0 : Int32} (hL : Lay G.2.2) 
    (hB : vp_in (sI G 66 54) 40 ∧ ((¬ (sI G 102 (Int32.toNatClampNeg (sI G 66 54))) = 0 → EvI K mX12_meant 6 121 [(0, .ref 66), (1, .int x1), (2, .int x2), (3, .int xs0)] [.int 1, .int (sI G 66 54), .ref 102] G Q) ∧ ((sI G 102 (Int32.toNatClampNeg (sI G 66 54))) = 0 → ((xs0 = 0 → EvI K mX12_meant 6 121 [(0, .ref 66), (1, .int x1), (2, .int x2), (3, .int xs0)] [.int 0, .int (sI G 66 54), .ref 102] G Q) ∧ (¬ xs0 = 0 → EvI K mX12_meant 6 121 [(0, .ref 66), (1, .int x1), (2, .int x2), (3, .int xs0)] [.int 1, .int (sI G 66 54), .ref 102] G Q))))) :
    EvI K mX12_meant 6 91 [(0, .ref 66), (1, .int x1), (2, .int x2)] [.int xs0] G Q := by
  refine E_istore_n (lv' := [(0, .ref 66), (1, .int x1), (2, .int x2), (3, .int xs0)]) dX12_meant_91 rfl (by decide) rfl ?_
  refine E_aload_n 0 dX12_meant_92 rfl rfl rfl ?_
  refine E_gR (j := 102) fG_X12_146 rfl (lo_66 hL) (lr_66_56 hL) (by decide) dX12_meant_93 ?_
  refine E_aload_n 0 dX12_meant_96 rfl rfl rfl ?_
  refine E_gI (v := sI G 66 54) fG_X12_232 rfl (lo_66 hL) rfl dX12_meant_97 ?_
  refine E_aload_n 0 dX12_meant_100 rfl rfl rfl ?_
  refine E_gR (j := 102) fG_X12_146 rfl (lo_66 hL) (lr_66_56 hL) (by decide) dX12_meant_101 ?_
  refine E_aload_n 0 dX12_meant_104 rfl rfl rfl ?_
  refine E_gI (v := sI G 66 54) fG_X12_232 rfl (lo_66 hL) rfl dX12_meant_105 ?_
  obtain ⟨qq1, hB⟩ := hB
  refine E_aZ (p := Int32.toNatClampNeg (sI G 66 54)) (v := sI G 102 (Int32.toNatClampNeg (sI G 66 54))) (la_102 hL) qq1 rfl rfl dX12_meant_108 ?_
  refine E_if_ne (tgt := 116) dX12_meant_109 (by decide) (fun c => ?_) (fun c => ?_)
  · have hB := hB.1 c
    refine E_iconst (v := 1) dX12_meant_116 (by decide) ?_
    refine E_goto (tgt := 121) dX12_meant_117 (by decide) ?_
    exact EvI.tr hB rfl
  · have hB := hB.2 c
    refine E_iload_n 3 dX12_meant_112 rfl rfl ?_
    refine E_if_eq (tgt := 120) dX12_meant_113 (by decide) (fun c => ?_) (fun c => ?_)
    · have hB := hB.1 c
      refine E_iconst (v := 0) dX12_meant_120 (by decide) ?_
      exact EvI.tr hB rfl
    · have hB := hB.2 c
      refine E_iconst (v := 1) dX12_meant_116 (by decide) ?_
      refine E_goto (tgt := 121) dX12_meant_117 (by decide) ?_
      exact EvI.tr hB rfl

set_option maxRecDepth 20000 in
set_option maxHeartbeats 2000000 in
theorem kX12_meant_121 {K : KT} {G : St} {Q : Int32 → St → Prop} {x1 : Int32} {x2 : Int32} {x3 : Int32} {xs1 : Int32} {xs2 : Int32} (hL : Lay G.2.2) 
    (hB : vp_in xs1 40 ∧ (xs2 = 0 ∨ xs2 = 1) ∧ vp_in (sI G 66 54) 40 ∧ ((¬ (sI G 101 (Int32.toNatClampNeg (sI G 66 54))) = 0 → EvI K mX12_meant 6 156 [(0, .ref 66), (1, .int x1), (2, .int x2)] [.int 1, .int (sI G 66 54), .ref 101] (uI G 102 (Int32.toNatClampNeg xs1) xs2) Q) ∧ ((sI G 101 (Int32.toNatClampNeg (sI G 66 54))) = 0 → ((x3 = 0 → EvI K mX12_meant 6 155 [(0, .ref 66), (1, .int x1), (2, .int x2)] [.int (sI G 66 54), .ref 101] (uI G 102 (Int32.toNatClampNeg xs1) xs2) Q) ∧ (¬ x3 = 0 → ((3 ≤ x2 → EvI K mX12_meant 6 155 [(0, .ref 66), (1, .int x1), (2, .int x2)] [.int (sI G 66 54), .ref 101] (uI G 102 (Int32.toNatClampNeg xs1) xs2) Q) ∧ (¬ 3 ≤ x2 → EvI K mX12_meant 6 156 [(0, .ref 66), (1, .int x1), (2, .int x2)] [.int 1, .int (sI G 66 54), .ref 101] (uI G 102 (Int32.toNatClampNeg xs1) xs2) Q))))))) :
    EvI K mX12_meant 6 121 [(0, .ref 66), (1, .int x1), (2, .int x2), (3, .int x3)] [.int xs2, .int xs1, .ref 102] G Q := by
  obtain ⟨qq1, hB⟩ := hB
  obtain ⟨qq2, hB⟩ := hB
  refine E_sZ (p := Int32.toNatClampNeg xs1) (la_102 hL) qq1 qq2 rfl dX12_meant_121 ?_
  refine E_aload_n 0 dX12_meant_122 rfl rfl rfl ?_
  refine E_gR (j := 101) fG_X12_143 rfl (lo_66 hL) (lr_66_55 hL) (by decide) dX12_meant_123 ?_
  refine E_aload_n 0 dX12_meant_126 rfl rfl rfl ?_
  refine E_gI (v := sI G 66 54) fG_X12_232 rfl (lo_66 hL) rfl dX12_meant_127 ?_
  refine E_aload_n 0 dX12_meant_130 rfl rfl rfl ?_
  refine E_gR (j := 101) fG_X12_143 rfl (lo_66 hL) (lr_66_55 hL) (by decide) dX12_meant_131 ?_
  refine E_aload_n 0 dX12_meant_134 rfl rfl rfl ?_
  refine E_gI (v := sI G 66 54) fG_X12_232 rfl (lo_66 hL) rfl dX12_meant_135 ?_
  obtain ⟨qq3, hB⟩ := hB
  refine E_aZ (p := Int32.toNatClampNeg (sI G 66 54)) (v := sI G 101 (Int32.toNatClampNeg (sI G 66 54))) (la_101 hL) qq3 rfl rfl dX12_meant_138 ?_
  refine E_if_ne (tgt := 151) dX12_meant_139 (by decide) (fun c => ?_) (fun c => ?_)
  · have hB := hB.1 c
    refine E_iconst (v := 1) dX12_meant_151 (by decide) ?_
    refine E_goto (tgt := 156) dX12_meant_152 (by decide) ?_
    refine E_sub (lv' := [(0, .ref 66), (1, .int x1), (2, .int x2)]) [0, 1, 2] rfl ?_
    exact EvI.tr hB rfl
  · have hB := hB.2 c
    refine E_iload_n 3 dX12_meant_142 rfl rfl ?_
    refine E_if_eq (tgt := 155) dX12_meant_143 (by decide) (fun c => ?_) (fun c => ?_)
    · have hB := hB.1 c
      refine E_sub (lv' := [(0, .ref 66), (1, .int x1), (2, .int x2)]) [0, 1, 2] rfl ?_
      exact EvI.tr hB rfl
    · have hB := hB.2 c
      refine E_iload_n 2 dX12_meant_146 rfl rfl ?_
      refine E_iconst (v := 3) dX12_meant_147 (by decide) ?_
      refine E_icmp_ge (tgt := 155) dX12_meant_148 (by decide) (fun c => ?_) (fun c => ?_)
      · have hB := hB.1 c
        refine E_sub (lv' := [(0, .ref 66), (1, .int x1), (2, .int x2)]) [0, 1, 2] rfl ?_
        exact EvI.tr hB rfl
      · have hB := hB.2 c
        refine E_iconst (v := 1) dX12_meant_151 (by decide) ?_
        refine E_goto (tgt := 156) dX12_meant_152 (by decide) ?_
        refine E_sub (lv' := [(0, .ref 66), (1, .int x1), (2, .int x2)]) [0, 1, 2] rfl ?_
        exact EvI.tr hB rfl

set_option maxRecDepth 20000 in
set_option maxHeartbeats 2000000 in
theorem kX12_meant_155 {K : KT} {G : St} {Q : Int32 → St → Prop} {x1 : Int32} {x2 : Int32} {xs1 : Int32} (hL : Lay G.2.2) 
    (hB : EvI K mX12_meant 6 156 [(0, .ref 66), (1, .int x1), (2, .int x2)] [.int 0, .int xs1, .ref 101] G Q) :
    EvI K mX12_meant 6 155 [(0, .ref 66), (1, .int x1), (2, .int x2)] [.int xs1, .ref 101] G Q := by
  refine E_iconst (v := 0) dX12_meant_155 (by decide) ?_
  exact EvI.tr hB rfl

set_option maxRecDepth 20000 in
set_option maxHeartbeats 2000000 in
theorem kX12_meant_156 {K : KT} {G : St} {Q : Int32 → St → Prop} {x1 : Int32} {x2 : Int32} {xs1 : Int32} {xs2 : Int32} (hL : Lay G.2.2) 
    (hB : vp_in xs1 40 ∧ (xs2 = 0 ∨ xs2 = 1) ∧ EvI K mX12_meant 6 63 [(0, .ref 66), (1, .int x1), (2, .int (x2 + 1))] [] (uI G 101 (Int32.toNatClampNeg xs1) xs2) Q) :
    EvI K mX12_meant 6 156 [(0, .ref 66), (1, .int x1), (2, .int x2)] [.int xs2, .int xs1, .ref 101] G Q := by
  obtain ⟨qq1, hB⟩ := hB
  obtain ⟨qq2, hB⟩ := hB
  refine E_sZ (p := Int32.toNatClampNeg xs1) (la_101 hL) qq1 qq2 rfl dX12_meant_156 ?_
  refine E_iinc (v := x2 + 1) (lv' := [(0, .ref 66), (1, .int x1), (2, .int (x2 + 1))]) 2 dX12_meant_157 rfl rfl (by decide) rfl ?_
  refine E_goto (tgt := 63) dX12_meant_160 (by decide) ?_
  exact EvI.tr hB rfl

set_option maxRecDepth 20000 in
set_option maxHeartbeats 2000000 in
theorem kX12_judged_0 {K : KT} {G : St} {Q : Int32 → St → Prop} {x1 : Int32} (hL : Lay G.2.2) 
    (hB : EvI K mX12_within 0 0 [(0, .int x1), (1, .int 0), (2, .int 2)] [] (uI G 66 0 0) (fun r1 G1 => ((¬ r1 = 0 → EvI K mX12_judged 1 20 [(0, .ref 66), (1, .int x1), (2, .int 0), (3, .int 0)] [] G1 Q) ∧ (r1 = 0 → Q (-1) G1)))) :
    EvI K mX12_judged 1 0 [(0, .ref 66), (1, .int x1)] [] G Q := by
  refine E_aload_n 0 dX12_judged_0 rfl rfl rfl ?_
  refine E_iconst (v := 0) dX12_judged_1 (by decide) ?_
  refine E_pI fP_X12_1 rfl (lo_66 hL) dX12_judged_2 ?_
  refine E_iload_n 1 dX12_judged_5 rfl rfl ?_
  refine E_iconst (v := 0) dX12_judged_6 (by decide) ?_
  refine E_iconst (v := 2) dX12_judged_7 (by decide) ?_
  refine E_callS (as := [.int x1, .int 0, .int 2]) (st := []) cm_X12_within cS_X12_277 rfl rfl (by decide) (Nat.le_of_ble_eq_true rfl) (Nat.le_of_ble_eq_true rfl) dX12_judged_8 hB (fun r G1 hr => ?_)
  obtain ⟨r1, rfl, hE1, hB⟩ := hr
  have hL1 : Lay G1.2.2 := by rw [hE1]; exact hL
  have hE1 : G1.2.2 = G.2.2 := hE1
  show Ev K mX12_judged 1 11 [(0, .ref 66), (1, .int x1)] [.int r1] G1 _
  refine E_if_ne (tgt := 16) dX12_judged_11 (by decide) (fun c => ?_) (fun c => ?_)
  · have hB := hB.1 c
    refine E_iconst (v := 0) dX12_judged_16 (by decide) ?_
    refine E_istore_n (lv' := [(0, .ref 66), (1, .int x1), (2, .int 0)]) dX12_judged_17 rfl (by decide) rfl ?_
    refine E_iconst (v := 0) dX12_judged_18 (by decide) ?_
    refine E_istore_n (lv' := [(0, .ref 66), (1, .int x1), (2, .int 0), (3, .int 0)]) dX12_judged_19 rfl (by decide) rfl ?_
    exact EvI.tr hB hE1
  · have hB := hB.2 c
    refine E_iconst (v := (-1)) dX12_judged_14 (by decide) ?_
    exact E_iret rfl dX12_judged_15 ⟨_, rfl, hE1, hB⟩

set_option maxRecDepth 20000 in
set_option maxHeartbeats 2000000 in
theorem kX12_judged_20 {K : KT} {G : St} {Q : Int32 → St → Prop} {x1 : Int32} {x2 : Int32} {x3 : Int32} (hL : Lay G.2.2) 
    (hB : (((sI G 66 54) ≤ x3 → Q x2 G) ∧ (¬ (sI G 66 54) ≤ x3 → ((x1 = 0 → EvI K mX12_judged 1 64 [(0, .ref 66), (1, .int x1), (3, .int x3)] [.int 1, .int x2] G Q) ∧ (¬ x1 = 0 → ((¬ x1 = 1 → vp_in x3 40 ∧ (((sI G 102 (Int32.toNatClampNeg x3)) = 0 → EvI K mX12_judged 1 63 [(0, .ref 66), (1, .int x1), (3, .int x3)] [.int x2] G Q) ∧ (¬ (sI G 102 (Int32.toNatClampNeg x3)) = 0 → EvI K mX12_judged 1 64 [(0, .ref 66), (1, .int x1), (3, .int x3)] [.int 1, .int x2] G Q))) ∧ (x1 = 1 → vp_in x3 40 ∧ (((sI G 101 (Int32.toNatClampNeg x3)) = 0 → EvI K mX12_judged 1 63 [(0, .ref 66), (1, .int x1), (3, .int x3)] [.int x2] G Q) ∧ (¬ (sI G 101 (Int32.toNatClampNeg x3)) = 0 → EvI K mX12_judged 1 64 [(0, .ref 66), (1, .int x1), (3, .int x3)] [.int 1, .int x2] G Q))))))))) :
    EvI K mX12_judged 1 20 [(0, .ref 66), (1, .int x1), (2, .int x2), (3, .int x3)] [] G Q := by
  refine E_iload_n 3 dX12_judged_20 rfl rfl ?_
  refine E_aload_n 0 dX12_judged_21 rfl rfl rfl ?_
  refine E_gI (v := sI G 66 54) fG_X12_232 rfl (lo_66 hL) rfl dX12_judged_22 ?_
  refine E_icmp_ge (tgt := 72) dX12_judged_25 (by decide) (fun c => ?_) (fun c => ?_)
  · have hB := hB.1 c
    refine E_iload_n 2 dX12_judged_72 rfl rfl ?_
    exact E_iret rfl dX12_judged_73 ⟨_, rfl, rfl, hB⟩
  · have hB := hB.2 c
    refine E_iload_n 2 dX12_judged_28 rfl rfl ?_
    refine E_iload_n 1 dX12_judged_29 rfl rfl ?_
    refine E_if_eq (tgt := 59) dX12_judged_30 (by decide) (fun c => ?_) (fun c => ?_)
    · have hB := hB.1 c
      refine E_iconst (v := 1) dX12_judged_59 (by decide) ?_
      refine E_goto (tgt := 64) dX12_judged_60 (by decide) ?_
      refine E_sub (lv' := [(0, .ref 66), (1, .int x1), (3, .int x3)]) [0, 1, 3] rfl ?_
      exact EvI.tr hB rfl
    · have hB := hB.2 c
      refine E_iload_n 1 dX12_judged_33 rfl rfl ?_
      refine E_iconst (v := 1) dX12_judged_34 (by decide) ?_
      refine E_icmp_ne (tgt := 50) dX12_judged_35 (by decide) (fun c => ?_) (fun c => ?_)
      · have hB := hB.1 c
        refine E_aload_n 0 dX12_judged_50 rfl rfl rfl ?_
        refine E_gR (j := 102) fG_X12_146 rfl (lo_66 hL) (lr_66_56 hL) (by decide) dX12_judged_51 ?_
        refine E_iload_n 3 dX12_judged_54 rfl rfl ?_
        obtain ⟨qq1, hB⟩ := hB
        refine E_aZ (p := Int32.toNatClampNeg x3) (v := sI G 102 (Int32.toNatClampNeg x3)) (la_102 hL) qq1 rfl rfl dX12_judged_55 ?_
        refine E_if_eq (tgt := 63) dX12_judged_56 (by decide) (fun c => ?_) (fun c => ?_)
        · have hB := hB.1 c
          refine E_sub (lv' := [(0, .ref 66), (1, .int x1), (3, .int x3)]) [0, 1, 3] rfl ?_
          exact EvI.tr hB rfl
        · have hB := hB.2 c
          refine E_iconst (v := 1) dX12_judged_59 (by decide) ?_
          refine E_goto (tgt := 64) dX12_judged_60 (by decide) ?_
          refine E_sub (lv' := [(0, .ref 66), (1, .int x1), (3, .int x3)]) [0, 1, 3] rfl ?_
          exact EvI.tr hB rfl
      · have hB := hB.2 c
        refine E_aload_n 0 dX12_judged_38 rfl rfl rfl ?_
        refine E_gR (j := 101) fG_X12_143 rfl (lo_66 hL) (lr_66_55 hL) (by decide) dX12_judged_39 ?_
        refine E_iload_n 3 dX12_judged_42 rfl rfl ?_
        obtain ⟨qq2, hB⟩ := hB
        refine E_aZ (p := Int32.toNatClampNeg x3) (v := sI G 101 (Int32.toNatClampNeg x3)) (la_101 hL) qq2 rfl rfl dX12_judged_43 ?_
        refine E_if_eq (tgt := 63) dX12_judged_44 (by decide) (fun c => ?_) (fun c => ?_)
        · have hB := hB.1 c
          refine E_sub (lv' := [(0, .ref 66), (1, .int x1), (3, .int x3)]) [0, 1, 3] rfl ?_
          exact EvI.tr hB rfl
        · have hB := hB.2 c
          refine E_goto (tgt := 59) dX12_judged_47 (by decide) ?_
          refine E_iconst (v := 1) dX12_judged_59 (by decide) ?_
          refine E_goto (tgt := 64) dX12_judged_60 (by decide) ?_
          refine E_sub (lv' := [(0, .ref 66), (1, .int x1), (3, .int x3)]) [0, 1, 3] rfl ?_
          exact EvI.tr hB rfl

set_option maxRecDepth 20000 in
set_option maxHeartbeats 2000000 in
theorem kX12_judged_63 {K : KT} {G : St} {Q : Int32 → St → Prop} {x1 : Int32} {x3 : Int32} {xs0 : Int32} (hL : Lay G.2.2) 
    (hB : EvI K mX12_judged 1 64 [(0, .ref 66), (1, .int x1), (3, .int x3)] [.int 0, .int xs0] G Q) :
    EvI K mX12_judged 1 63 [(0, .ref 66), (1, .int x1), (3, .int x3)] [.int xs0] G Q := by
  refine E_iconst (v := 0) dX12_judged_63 (by decide) ?_
  exact EvI.tr hB rfl

set_option maxRecDepth 20000 in
set_option maxHeartbeats 2000000 in
theorem kX12_judged_64 {K : KT} {G : St} {Q : Int32 → St → Prop} {x1 : Int32} {x3 : Int32} {xs0 : Int32} {xs1 : Int32} (hL : Lay G.2.2) 
    (hB : EvI K mX12_judged 1 20 [(0, .ref 66), (1, .int x1), (2, .int (xs0 + xs1)), (3, .int (x3 + 1))] [] G Q) :
    EvI K mX12_judged 1 64 [(0, .ref 66), (1, .int x1), (3, .int x3)] [.int xs1, .int xs0] G Q := by
  refine E_iadd dX12_judged_64 ?_
  refine E_istore_n (lv' := [(0, .ref 66), (1, .int x1), (2, .int (xs0 + xs1)), (3, .int x3)]) dX12_judged_65 rfl (by decide) rfl ?_
  refine E_iinc (v := x3 + 1) (lv' := [(0, .ref 66), (1, .int x1), (2, .int (xs0 + xs1)), (3, .int (x3 + 1))]) 3 dX12_judged_66 rfl rfl (by decide) rfl ?_
  refine E_goto (tgt := 20) dX12_judged_69 (by decide) ?_
  exact EvI.tr hB rfl

set_option maxRecDepth 20000 in
set_option maxHeartbeats 2000000 in
theorem kX12_pairs_0 {K : KT} {G : St} {Q : Int32 → St → Prop}  (hL : Lay G.2.2) 
    (hB : EvI K mX12_pairs 1 4 [(0, .ref 66), (1, .int 0), (2, .int 0)] [] G Q) :
    EvI K mX12_pairs 1 0 [(0, .ref 66)] [] G Q := by
  refine E_iconst (v := 0) dX12_pairs_0 (by decide) ?_
  refine E_istore_n (lv' := [(0, .ref 66), (1, .int 0)]) dX12_pairs_1 rfl (by decide) rfl ?_
  refine E_iconst (v := 0) dX12_pairs_2 (by decide) ?_
  refine E_istore_n (lv' := [(0, .ref 66), (1, .int 0), (2, .int 0)]) dX12_pairs_3 rfl (by decide) rfl ?_
  exact EvI.tr hB rfl

set_option maxRecDepth 20000 in
set_option maxHeartbeats 2000000 in
theorem kX12_pairs_4 {K : KT} {G : St} {Q : Int32 → St → Prop} {x1 : Int32} {x2 : Int32} (hL : Lay G.2.2) 
    (hB : (((sI G 66 16) ≤ x2 → Q (x1 / 2) G) ∧ (¬ (sI G 66 16) ≤ x2 → vp_in x2 30 ∧ EvI K mX12_bits 0 0 [(0, .int (sI G 87 (Int32.toNatClampNeg x2)))] [] G (fun r2 G2 => EvI K mX12_pairs 1 4 [(0, .ref 66), (1, .int (x1 + r2)), (2, .int (x2 + 1))] [] G2 Q)))) :
    EvI K mX12_pairs 1 4 [(0, .ref 66), (1, .int x1), (2, .int x2)] [] G Q := by
  refine E_iload_n 2 dX12_pairs_4 rfl rfl ?_
  refine E_aload_n 0 dX12_pairs_5 rfl rfl rfl ?_
  refine E_gI (v := sI G 66 16) fG_X12_223 rfl (lo_66 hL) rfl dX12_pairs_6 ?_
  refine E_icmp_ge (tgt := 30) dX12_pairs_9 (by decide) (fun c => ?_) (fun c => ?_)
  · have hB := hB.1 c
    refine E_iload_n 1 dX12_pairs_30 rfl rfl ?_
    refine E_iconst (v := 2) dX12_pairs_31 (by decide) ?_
    refine E_idiv dX12_pairs_32 (by decide) ?_
    exact E_iret rfl dX12_pairs_33 ⟨_, rfl, rfl, hB⟩
  · have hB := hB.2 c
    refine E_iload_n 1 dX12_pairs_12 rfl rfl ?_
    refine E_aload_n 0 dX12_pairs_13 rfl rfl rfl ?_
    refine E_gR (j := 87) fG_X12_99 rfl (lo_66 hL) (lr_66_34 hL) (by decide) dX12_pairs_14 ?_
    refine E_iload_n 2 dX12_pairs_17 rfl rfl ?_
    obtain ⟨qq1, hB⟩ := hB
    refine E_aI (p := Int32.toNatClampNeg x2) (v := sI G 87 (Int32.toNatClampNeg x2)) (la_87 hL) qq1 rfl rfl dX12_pairs_18 ?_
    refine E_callS (as := [.int (sI G 87 (Int32.toNatClampNeg x2))]) (st := [.int x1]) cm_X12_bits cS_X12_456 rfl rfl (by decide) (Nat.le_of_ble_eq_true rfl) (Nat.le_of_ble_eq_true rfl) dX12_pairs_19 hB (fun r G2 hr => ?_)
    obtain ⟨r2, rfl, hE2, hB⟩ := hr
    have hL2 : Lay G2.2.2 := by rw [hE2]; exact hL
    have hE2 : G2.2.2 = G.2.2 := hE2
    show Ev K mX12_pairs 1 22 [(0, .ref 66), (1, .int x1), (2, .int x2)] [.int r2, .int x1] G2 _
    refine E_iadd dX12_pairs_22 ?_
    refine E_istore_n (lv' := [(0, .ref 66), (1, .int (x1 + r2)), (2, .int x2)]) dX12_pairs_23 rfl (by decide) rfl ?_
    refine E_iinc (v := x2 + 1) (lv' := [(0, .ref 66), (1, .int (x1 + r2)), (2, .int (x2 + 1))]) 2 dX12_pairs_24 rfl rfl (by decide) rfl ?_
    refine E_goto (tgt := 4) dX12_pairs_27 (by decide) ?_
    exact EvI.tr hB hE2

set_option maxRecDepth 20000 in
set_option maxHeartbeats 2000000 in
theorem kX12_count_0 {K : KT} {G : St} {Q : Int32 → St → Prop} {x1 : Int32} (hL : Lay G.2.2) 
    (hB : EvI K mX12_within 0 0 [(0, .int x1), (1, .int 0), (2, .int 9)] [] (uI G 66 0 0) (fun r1 G1 => ((¬ r1 = 0 → EvV K mX12_findAll 5 0 [(0, .ref 66)] [] G1 (fun G2 => ((x1 = 0 → Q (sI G2 72 0) G2) ∧ (x1 = 1 → Q (sI G2 66 16) G2) ∧ (x1 = 2 → EvI K mX12_bits 0 0 [(0, .int (sI G2 66 37))] [] G2 (fun r3 G3 => Q r3 G3)) ∧ (x1 = 3 → Q (sI G2 66 20) G2) ∧ (x1 = 4 → Q (sI G2 66 38) G2) ∧ (x1 = 5 → Q (sI G2 66 43) G2) ∧ (x1 = 6 → Q (sI G2 66 2) G2) ∧ (x1 = 7 → EvV K mX12_findOffers 3 0 [(0, .ref 66)] [] G2 (fun G4 => Q (sI G4 66 31) G4)) ∧ (x1 = 8 → Q (sI G2 66 29) G2) ∧ (¬ x1 = 0 → ¬ x1 = 1 → ¬ x1 = 2 → ¬ x1 = 3 → ¬ x1 = 4 → ¬ x1 = 5 → ¬ x1 = 6 → ¬ x1 = 7 → ¬ x1 = 8 → EvI K mX12_pairs 1 0 [(0, .ref 66)] [] G2 (fun r5 G5 => Q r5 G5))))) ∧ (r1 = 0 → Q (-1) G1)))) :
    EvI K mX12_count 6 0 [(0, .ref 66), (1, .int x1)] [] G Q := by
  refine E_aload_n 0 dX12_count_0 rfl rfl rfl ?_
  refine E_iconst (v := 0) dX12_count_1 (by decide) ?_
  refine E_pI fP_X12_1 rfl (lo_66 hL) dX12_count_2 ?_
  refine E_iload_n 1 dX12_count_5 rfl rfl ?_
  refine E_iconst (v := 0) dX12_count_6 (by decide) ?_
  refine E_bipush (v := 9) dX12_count_7 (by decide) ?_
  refine E_callS (as := [.int x1, .int 0, .int 9]) (st := []) cm_X12_within cS_X12_277 rfl rfl (by decide) (Nat.le_of_ble_eq_true rfl) (Nat.le_of_ble_eq_true rfl) dX12_count_9 hB (fun r G1 hr => ?_)
  obtain ⟨r1, rfl, hE1, hB⟩ := hr
  have hL1 : Lay G1.2.2 := by rw [hE1]; exact hL
  have hE1 : G1.2.2 = G.2.2 := hE1
  show Ev K mX12_count 6 12 [(0, .ref 66), (1, .int x1)] [.int r1] G1 _
  refine E_if_ne (tgt := 17) dX12_count_12 (by decide) (fun c => ?_) (fun c => ?_)
  · have hB := hB.1 c
    refine E_aload_n 0 dX12_count_17 rfl rfl rfl ?_
    refine E_cV (ci := 11) (as := []) (st := []) cm_X12_findAll cV_X12_271 ⟨_, _, rfl⟩ (by decide) (lo_66 hL1) rfl rfl (by decide) (Nat.le_of_ble_eq_true rfl) (Nat.le_of_ble_eq_true rfl) dX12_count_18 hB (fun r G2 hr => ?_)
    obtain ⟨rfl, hE2, hB⟩ := hr
    have hL2 : Lay G2.2.2 := by rw [hE2]; exact hL1
    have hE2 : G2.2.2 = G.2.2 := hE2.trans hE1
    show Ev K mX12_count 6 21 [(0, .ref 66), (1, .int x1)] [] G2 _
    refine E_iload_n 1 dX12_count_21 rfl rfl ?_
    obtain ⟨hA, hB⟩ := hB
    by_cases c0 : x1 = 0
    · have hB := hA c0
      refine E_tableIn (off := 50) (tgt := 72) dX12_count_22 (by rw [c0]; decide) (by rw [c0]; decide) (by rw [c0]; decide) (by decide) ?_
      refine E_aload_n 0 dX12_count_72 rfl rfl rfl ?_
      refine E_gR (j := 72) fG_X12_53 rfl (lo_66 hL2) (lr_66_10 hL2) (by decide) dX12_count_73 ?_
      refine E_iconst (v := 0) dX12_count_76 (by decide) ?_
      refine E_aI (p := 0) (v := sI G2 72 0) (la_72 hL2) (by unfold vp_in; decide) (by decide) rfl dX12_count_77 ?_
      exact E_iret rfl dX12_count_78 ⟨_, rfl, hE2, hB⟩
    obtain ⟨hA, hB⟩ := hB
    by_cases c1 : x1 = 1
    · have hB := hA c1
      refine E_tableIn (off := 57) (tgt := 79) dX12_count_22 (by rw [c1]; decide) (by rw [c1]; decide) (by rw [c1]; decide) (by decide) ?_
      refine E_aload_n 0 dX12_count_79 rfl rfl rfl ?_
      refine E_gI (v := sI G2 66 16) fG_X12_223 rfl (lo_66 hL2) rfl dX12_count_80 ?_
      exact E_iret rfl dX12_count_83 ⟨_, rfl, hE2, hB⟩
    obtain ⟨hA, hB⟩ := hB
    by_cases c2 : x1 = 2
    · have hB := hA c2
      refine E_tableIn (off := 62) (tgt := 84) dX12_count_22 (by rw [c2]; decide) (by rw [c2]; decide) (by rw [c2]; decide) (by decide) ?_
      refine E_aload_n 0 dX12_count_84 rfl rfl rfl ?_
      refine E_gI (v := sI G2 66 37) fG_X12_337 rfl (lo_66 hL2) rfl dX12_count_85 ?_
      refine E_callS (as := [.int (sI G2 66 37)]) (st := []) cm_X12_bits cS_X12_456 rfl rfl (by decide) (Nat.le_of_ble_eq_true rfl) (Nat.le_of_ble_eq_true rfl) dX12_count_88 hB (fun r G3 hr => ?_)
      obtain ⟨r3, rfl, hE3, hB⟩ := hr
      have hL3 : Lay G3.2.2 := by rw [hE3]; exact hL2
      have hE3 : G3.2.2 = G.2.2 := hE3.trans hE2
      show Ev K mX12_count 6 91 [(0, .ref 66), (1, .int x1)] [.int r3] G3 _
      exact E_iret rfl dX12_count_91 ⟨_, rfl, hE3, hB⟩
    obtain ⟨hA, hB⟩ := hB
    by_cases c3 : x1 = 3
    · have hB := hA c3
      refine E_tableIn (off := 70) (tgt := 92) dX12_count_22 (by rw [c3]; decide) (by rw [c3]; decide) (by rw [c3]; decide) (by decide) ?_
      refine E_aload_n 0 dX12_count_92 rfl rfl rfl ?_
      refine E_gI (v := sI G2 66 20) fG_X12_226 rfl (lo_66 hL2) rfl dX12_count_93 ?_
      exact E_iret rfl dX12_count_96 ⟨_, rfl, hE2, hB⟩
    obtain ⟨hA, hB⟩ := hB
    by_cases c4 : x1 = 4
    · have hB := hA c4
      refine E_tableIn (off := 75) (tgt := 97) dX12_count_22 (by rw [c4]; decide) (by rw [c4]; decide) (by rw [c4]; decide) (by decide) ?_
      refine E_aload_n 0 dX12_count_97 rfl rfl rfl ?_
      refine E_gI (v := sI G2 66 38) fG_X12_366 rfl (lo_66 hL2) rfl dX12_count_98 ?_
      exact E_iret rfl dX12_count_101 ⟨_, rfl, hE2, hB⟩
    obtain ⟨hA, hB⟩ := hB
    by_cases c5 : x1 = 5
    · have hB := hA c5
      refine E_tableIn (off := 80) (tgt := 102) dX12_count_22 (by rw [c5]; decide) (by rw [c5]; decide) (by rw [c5]; decide) (by decide) ?_
      refine E_aload_n 0 dX12_count_102 rfl rfl rfl ?_
      refine E_gI (v := sI G2 66 43) fG_X12_397 rfl (lo_66 hL2) rfl dX12_count_103 ?_
      exact E_iret rfl dX12_count_106 ⟨_, rfl, hE2, hB⟩
    obtain ⟨hA, hB⟩ := hB
    by_cases c6 : x1 = 6
    · have hB := hA c6
      refine E_tableIn (off := 85) (tgt := 107) dX12_count_22 (by rw [c6]; decide) (by rw [c6]; decide) (by rw [c6]; decide) (by decide) ?_
      refine E_aload_n 0 dX12_count_107 rfl rfl rfl ?_
      refine E_gI (v := sI G2 66 2) fG_X12_11 rfl (lo_66 hL2) rfl dX12_count_108 ?_
      exact E_iret rfl dX12_count_111 ⟨_, rfl, hE2, hB⟩
    obtain ⟨hA, hB⟩ := hB
    by_cases c7 : x1 = 7
    · have hB := hA c7
      refine E_tableIn (off := 90) (tgt := 112) dX12_count_22 (by rw [c7]; decide) (by rw [c7]; decide) (by rw [c7]; decide) (by decide) ?_
      refine E_aload_n 0 dX12_count_112 rfl rfl rfl ?_
      refine E_cV (ci := 11) (as := []) (st := []) cm_X12_findOffers cV_X12_334 ⟨_, _, rfl⟩ (by decide) (lo_66 hL2) rfl rfl (by decide) (Nat.le_of_ble_eq_true rfl) (Nat.le_of_ble_eq_true rfl) dX12_count_113 hB (fun r G4 hr => ?_)
      obtain ⟨rfl, hE4, hB⟩ := hr
      have hL4 : Lay G4.2.2 := by rw [hE4]; exact hL2
      have hE4 : G4.2.2 = G.2.2 := hE4.trans hE2
      show Ev K mX12_count 6 116 [(0, .ref 66), (1, .int x1)] [] G4 _
      refine E_aload_n 0 dX12_count_116 rfl rfl rfl ?_
      refine E_gI (v := sI G4 66 31) fG_X12_320 rfl (lo_66 hL4) rfl dX12_count_117 ?_
      exact E_iret rfl dX12_count_120 ⟨_, rfl, hE4, hB⟩
    obtain ⟨hA, hB⟩ := hB
    by_cases c8 : x1 = 8
    · have hB := hA c8
      refine E_tableIn (off := 99) (tgt := 121) dX12_count_22 (by rw [c8]; decide) (by rw [c8]; decide) (by rw [c8]; decide) (by decide) ?_
      refine E_aload_n 0 dX12_count_121 rfl rfl rfl ?_
      refine E_gI (v := sI G2 66 29) fG_X12_229 rfl (lo_66 hL2) rfl dX12_count_122 ?_
      exact E_iret rfl dX12_count_125 ⟨_, rfl, hE2, hB⟩
    have hB := hB c0 c1 c2 c3 c4 c5 c6 c7 c8
    refine E_tableOut (tgt := 126) dX12_count_22 (tb_outZ (by decide) (by decide) (fun z z1 z2 => ?_)) (by decide) ?_
    · have z3 : z = 0 ∨ z = 1 ∨ z = 2 ∨ z = 3 ∨ z = 4 ∨ z = 5 ∨ z = 6 ∨ z = 7 ∨ z = 8 := by omega
      rcases z3 with rfl | rfl | rfl | rfl | rfl | rfl | rfl | rfl | rfl
      · exact fun q => c0 (q.trans (by decide))
      · exact fun q => c1 (q.trans (by decide))
      · exact fun q => c2 (q.trans (by decide))
      · exact fun q => c3 (q.trans (by decide))
      · exact fun q => c4 (q.trans (by decide))
      · exact fun q => c5 (q.trans (by decide))
      · exact fun q => c6 (q.trans (by decide))
      · exact fun q => c7 (q.trans (by decide))
      · exact fun q => c8 (q.trans (by decide))
    refine E_aload_n 0 dX12_count_126 rfl rfl rfl ?_
    refine E_cV (ci := 11) (as := []) (st := []) cm_X12_pairs cV_X12_462 ⟨_, _, rfl⟩ (by decide) (lo_66 hL2) rfl rfl (by decide) (Nat.le_of_ble_eq_true rfl) (Nat.le_of_ble_eq_true rfl) dX12_count_127 hB (fun r G5 hr => ?_)
    obtain ⟨r5, rfl, hE5, hB⟩ := hr
    have hL5 : Lay G5.2.2 := by rw [hE5]; exact hL2
    have hE5 : G5.2.2 = G.2.2 := hE5.trans hE2
    show Ev K mX12_count 6 130 [(0, .ref 66), (1, .int x1)] [.int r5] G5 _
    exact E_iret rfl dX12_count_130 ⟨_, rfl, hE5, hB⟩
  · have hB := hB.2 c
    refine E_iconst (v := (-1)) dX12_count_15 (by decide) ?_
    exact E_iret rfl dX12_count_16 ⟨_, rfl, hE1, hB⟩

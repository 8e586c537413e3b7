set_option maxRecDepth 20000 in
set_option maxHeartbeats 2000000 in
theorem kX5_faultHere_0 {K : KT} {G : St} {Q : Int32 → St → Prop} {x1 : Int32} (hL : Lay G.2.2) 
    (hB : Q (x1 + (16 * (sI G 2 4))) G) :
    EvI K mX5_faultHere 0 0 [(0, .ref 4), (1, .int x1)] [] G Q := by
  refine E_iload_n 1 dX5_faultHere_0 rfl rfl ?_
  refine E_bipush (v := 16) dX5_faultHere_1 (by decide) ?_
  refine E_aload_n 0 dX5_faultHere_3 rfl rfl rfl ?_
  refine E_gR (j := 2) fG_X5_9 rfl (lo_4 hL) (lr_4_0 hL) (by decide) dX5_faultHere_4 ?_
  refine E_gI (v := sI G 2 4) fG_X5_180 rfl (lo_2 hL) rfl dX5_faultHere_7 ?_
  refine E_imul dX5_faultHere_10 ?_
  refine E_iadd dX5_faultHere_11 ?_
  exact E_iret rfl dX5_faultHere_12 ⟨_, rfl, rfl, hB⟩

set_option maxRecDepth 20000 in
set_option maxHeartbeats 2000000 in
theorem kX5_readColumn_0 {K : KT} {G : St} {Q : Int32 → St → Prop} {h1 : Nat} {x2 : Int32} (hL : Lay G.2.2) (hh1 : h1 = 39 ∨ h1 = 49)
    (hB : EvI K mX7_isName 1 0 [(0, .ref 2)] [] G (fun r1 G1 => ((¬ r1 = 0 → EvI K mX1_hasColumnNamed 0 0 [(0, .ref h1), (1, .int x2), (2, .long (sL G1 2 5))] [] G1 (fun r2 G2 => ((r2 = 0 → vp_in x2 5 ∧ (((sI G2 (h1 + 2) (Int32.toNatClampNeg x2)) < 4 → EvV K mX7_advance 2 0 [(0, .ref 2)] [] G2 (fun G4 => EvI K mX7_isName 1 0 [(0, .ref 2)] [] G4 (fun r5 G5 => ((r5 = 0 → EvI K mX7_isWord 0 0 [(0, .ref 2), (1, .long 397973)] [] G5 (fun r6 G6 => ((r6 = 0 → EvI K mX7_isWord 0 0 [(0, .ref 2), (1, .long 212302449)] [] G6 (fun r7 G7 => ((r7 = 0 → EvI K mX5_faultHere 0 0 [(0, .ref 4), (1, .int 1)] [] G7 (fun r8 G8 => Q r8 G8)) ∧ (¬ r7 = 0 → EvI K mX5_readColumn 3 151 [(0, .ref 4), (1, .ref h1), (2, .int x2), (3, .long (sL G2 2 5)), (5, .int (-2))] [] G7 Q)))) ∧ (¬ r6 = 0 → EvI K mX5_readColumn 3 151 [(0, .ref 4), (1, .ref h1), (2, .int x2), (3, .long (sL G2 2 5)), (5, .int (-1))] [] G6 Q)))) ∧ (¬ r5 = 0 → EvI K mX1_tableNamed 0 0 [(0, .ref h1), (1, .long (sL G5 2 5))] [] G5 (fun r9 G9 => ((¬ r9 = (-1) → EvI K mX5_readColumn 3 151 [(0, .ref 4), (1, .ref h1), (2, .int x2), (3, .long (sL G2 2 5)), (5, .int r9)] [] G9 Q) ∧ (r9 = (-1) → EvI K mX5_faultHere 0 0 [(0, .ref 4), (1, .int 2)] [] G9 (fun r10 G10 => Q r10 G10))))))))) ∧ (¬ (sI G2 (h1 + 2) (Int32.toNatClampNeg x2)) < 4 → EvI K mX5_faultHere 0 0 [(0, .ref 4), (1, .int 5)] [] G2 (fun r11 G11 => Q r11 G11)))) ∧ (¬ r2 = 0 → EvI K mX5_faultHere 0 0 [(0, .ref 4), (1, .int 3)] [] G2 (fun r12 G12 => Q r12 G12))))) ∧ (r1 = 0 → EvI K mX5_faultHere 0 0 [(0, .ref 4), (1, .int 1)] [] G1 (fun r13 G13 => Q r13 G13))))) :
    EvI K mX5_readColumn 3 0 [(0, .ref 4), (1, .ref h1), (2, .int x2)] [] G Q := by
  refine E_aload_n 0 dX5_readColumn_0 rfl rfl rfl ?_
  refine E_gR (j := 2) fG_X5_9 rfl (lo_4 hL) (lr_4_0 hL) (by decide) dX5_readColumn_1 ?_
  refine E_cV (ci := 7) (as := []) (st := []) cm_X7_isName cV_X5_71 ⟨_, _, rfl⟩ (by decide) (lo_2 hL) rfl rfl (by decide) (Nat.le_of_ble_eq_true rfl) (Nat.le_of_ble_eq_true rfl) dX5_readColumn_4 hB (fun r G1 hr => ?_)
  obtain ⟨r1, rfl, hE1, hB⟩ := hr
  have hL1 : Lay G1.2.2 := by rw [hE1]; exact hL
  have hE1 : G1.2.2 = G.2.2 := hE1
  show Ev K mX5_readColumn 3 7 [(0, .ref 4), (1, .ref h1), (2, .int x2)] [.int r1] G1 _
  refine E_if_ne (tgt := 16) dX5_readColumn_7 (by decide) (fun c => ?_) (fun c => ?_)
  · have hB := hB.1 c
    refine E_aload_n 1 dX5_readColumn_16 rfl rfl rfl ?_
    refine E_iload_n 2 dX5_readColumn_17 rfl rfl ?_
    refine E_aload_n 0 dX5_readColumn_18 rfl rfl rfl ?_
    refine E_gR (j := 2) fG_X5_9 rfl (lo_4 hL1) (lr_4_0 hL1) (by decide) dX5_readColumn_19 ?_
    refine E_gL (v := sL G1 2 5) fG_X5_75 rfl (lo_2 hL1) rfl dX5_readColumn_22 ?_
    refine E_cV (ci := 1) (as := [.int x2, .long (sL G1 2 5)]) (st := []) cm_X1_hasColumnNamed cV_X5_102 ⟨_, _, rfl⟩ (by decide) (lhO hL1 hh1) rfl rfl (by decide) (Nat.le_of_ble_eq_true rfl) (Nat.le_of_ble_eq_true rfl) dX5_readColumn_25 hB (fun r G2 hr => ?_)
    obtain ⟨r2, rfl, hE2, hB⟩ := hr
    have hL2 : Lay G2.2.2 := by rw [hE2]; exact hL1
    have hE2 : G2.2.2 = G.2.2 := hE2.trans hE1
    show Ev K mX5_readColumn 3 28 [(0, .ref 4), (1, .ref h1), (2, .int x2)] [.int r2] G2 _
    refine E_if_eq (tgt := 37) dX5_readColumn_28 (by decide) (fun c => ?_) (fun c => ?_)
    · have hB := hB.1 c
      refine E_aload_n 1 dX5_readColumn_37 rfl rfl rfl ?_
      refine E_gR (j := h1 + 2) fG_X5_106 rfl (lhO hL2 hh1) (lhR1 hL2 hh1) (Nat.succ_pos _) dX5_readColumn_38 ?_
      refine E_iload_n 2 dX5_readColumn_41 rfl rfl ?_
      obtain ⟨qq3, hB⟩ := hB
      refine E_aI (p := Int32.toNatClampNeg x2) (v := sI G2 (h1 + 2) (Int32.toNatClampNeg x2)) (lhA1 hL2 hh1) qq3 rfl rfl dX5_readColumn_42 ?_
      refine E_iconst (v := 4) dX5_readColumn_43 (by decide) ?_
      refine E_icmp_lt (tgt := 53) dX5_readColumn_44 (by decide) (fun c => ?_) (fun c => ?_)
      · have hB := hB.1 c
        refine E_aload_n 0 dX5_readColumn_53 rfl rfl rfl ?_
        refine E_gR (j := 2) fG_X5_9 rfl (lo_4 hL2) (lr_4_0 hL2) (by decide) dX5_readColumn_54 ?_
        refine E_gL (v := sL G2 2 5) fG_X5_75 rfl (lo_2 hL2) rfl dX5_readColumn_57 ?_
        refine E_lstore_n (lv' := [(0, .ref 4), (1, .ref h1), (2, .int x2), (3, .long (sL G2 2 5))]) dX5_readColumn_60 rfl (by decide) rfl ?_
        refine E_aload_n 0 dX5_readColumn_61 rfl rfl rfl ?_
        refine E_gR (j := 2) fG_X5_9 rfl (lo_4 hL2) (lr_4_0 hL2) (by decide) dX5_readColumn_62 ?_
        refine E_cV (ci := 7) (as := []) (st := []) cm_X7_advance cV_X5_68 ⟨_, _, rfl⟩ (by decide) (lo_2 hL2) rfl rfl (by decide) (Nat.le_of_ble_eq_true rfl) (Nat.le_of_ble_eq_true rfl) dX5_readColumn_65 hB (fun r G4 hr => ?_)
        obtain ⟨rfl, hE4, hB⟩ := hr
        have hL4 : Lay G4.2.2 := by rw [hE4]; exact hL2
        have hE4 : G4.2.2 = G.2.2 := hE4.trans hE2
        show Ev K mX5_readColumn 3 68 [(0, .ref 4), (1, .ref h1), (2, .int x2), (3, .long (sL G2 2 5))] [] G4 _
        refine E_iconst (v := (-1)) dX5_readColumn_68 (by decide) ?_
        refine E_istore (lv' := [(0, .ref 4), (1, .ref h1), (2, .int x2), (3, .long (sL G2 2 5)), (5, .int (-1))]) dX5_readColumn_69 (by decide) rfl ?_
        refine E_aload_n 0 dX5_readColumn_71 rfl rfl rfl ?_
        refine E_gR (j := 2) fG_X5_9 rfl (lo_4 hL4) (lr_4_0 hL4) (by decide) dX5_readColumn_72 ?_
        refine E_cV (ci := 7) (as := []) (st := []) cm_X7_isName cV_X5_71 ⟨_, _, rfl⟩ (by decide) (lo_2 hL4) rfl rfl (by decide) (Nat.le_of_ble_eq_true rfl) (Nat.le_of_ble_eq_true rfl) dX5_readColumn_75 hB (fun r G5 hr => ?_)
        obtain ⟨r5, rfl, hE5, hB⟩ := hr
        have hL5 : Lay G5.2.2 := by rw [hE5]; exact hL4
        have hE5 : G5.2.2 = G.2.2 := hE5.trans hE4
        show Ev K mX5_readColumn 3 78 [(0, .ref 4), (1, .ref h1), (2, .int x2), (3, .long (sL G2 2 5)), (5, .int (-1))] [.int r5] G5 _
        refine E_if_eq (tgt := 106) dX5_readColumn_78 (by decide) (fun c => ?_) (fun c => ?_)
        · have hB := hB.1 c
          refine E_aload_n 0 dX5_readColumn_106 rfl rfl rfl ?_
          refine E_gR (j := 2) fG_X5_9 rfl (lo_4 hL5) (lr_4_0 hL5) (by decide) dX5_readColumn_107 ?_
          refine E_ldc2 (v := 397973) tm_535 dX5_readColumn_110 ?_
          refine E_cV (ci := 7) (as := [.long 397973]) (st := []) cm_X7_isWord cV_X5_57 ⟨_, _, rfl⟩ (by decide) (lo_2 hL5) rfl rfl (by decide) (Nat.le_of_ble_eq_true rfl) (Nat.le_of_ble_eq_true rfl) dX5_readColumn_113 hB (fun r G6 hr => ?_)
          obtain ⟨r6, rfl, hE6, hB⟩ := hr
          have hL6 : Lay G6.2.2 := by rw [hE6]; exact hL5
          have hE6 : G6.2.2 = G.2.2 := hE6.trans hE5
          show Ev K mX5_readColumn 3 116 [(0, .ref 4), (1, .ref h1), (2, .int x2), (3, .long (sL G2 2 5)), (5, .int (-1))] [.int r6] G6 _
          refine E_if_eq (tgt := 125) dX5_readColumn_116 (by decide) (fun c => ?_) (fun c => ?_)
          · have hB := hB.1 c
            refine E_aload_n 0 dX5_readColumn_125 rfl rfl rfl ?_
            refine E_gR (j := 2) fG_X5_9 rfl (lo_4 hL6) (lr_4_0 hL6) (by decide) dX5_readColumn_126 ?_
            refine E_ldc2 (v := 212302449) tm_536 dX5_readColumn_129 ?_
            refine E_cV (ci := 7) (as := [.long 212302449]) (st := []) cm_X7_isWord cV_X5_57 ⟨_, _, rfl⟩ (by decide) (lo_2 hL6) rfl rfl (by decide) (Nat.le_of_ble_eq_true rfl) (Nat.le_of_ble_eq_true rfl) dX5_readColumn_132 hB (fun r G7 hr => ?_)
            obtain ⟨r7, rfl, hE7, hB⟩ := hr
            have hL7 : Lay G7.2.2 := by rw [hE7]; exact hL6
            have hE7 : G7.2.2 = G.2.2 := hE7.trans hE6
            show Ev K mX5_readColumn 3 135 [(0, .ref 4), (1, .ref h1), (2, .int x2), (3, .long (sL G2 2 5)), (5, .int (-1))] [.int r7] G7 _
            refine E_if_eq (tgt := 145) dX5_readColumn_135 (by decide) (fun c => ?_) (fun c => ?_)
            · have hB := hB.1 c
              refine E_aload_n 0 dX5_readColumn_145 rfl rfl rfl ?_
              refine E_iconst (v := 1) dX5_readColumn_146 (by decide) ?_
              refine E_cV (ci := 5) (as := [.int 1]) (st := []) cm_X5_faultHere cV_X5_61 ⟨_, _, rfl⟩ (by decide) (lo_4 hL7) rfl rfl (by decide) (Nat.le_of_ble_eq_true rfl) (Nat.le_of_ble_eq_true rfl) dX5_readColumn_147 hB (fun r G8 hr => ?_)
              obtain ⟨r8, rfl, hE8, hB⟩ := hr
              have hL8 : Lay G8.2.2 := by rw [hE8]; exact hL7
              have hE8 : G8.2.2 = G.2.2 := hE8.trans hE7
              show Ev K mX5_readColumn 3 150 [(0, .ref 4), (1, .ref h1), (2, .int x2), (3, .long (sL G2 2 5)), (5, .int (-1))] [.int r8] G8 _
              exact E_iret rfl dX5_readColumn_150 ⟨_, rfl, hE8, hB⟩
            · have hB := hB.2 c
              refine E_bipush (v := (-2)) dX5_readColumn_138 (by decide) ?_
              refine E_istore (lv' := [(0, .ref 4), (1, .ref h1), (2, .int x2), (3, .long (sL G2 2 5)), (5, .int (-2))]) dX5_readColumn_140 (by decide) rfl ?_
              refine E_goto (tgt := 151) dX5_readColumn_142 (by decide) ?_
              exact EvI.tr hB hE7
          · have hB := hB.2 c
            refine E_iconst (v := (-1)) dX5_readColumn_119 (by decide) ?_
            refine E_istore (lv' := [(0, .ref 4), (1, .ref h1), (2, .int x2), (3, .long (sL G2 2 5)), (5, .int (-1))]) dX5_readColumn_120 (by decide) rfl ?_
            refine E_goto (tgt := 151) dX5_readColumn_122 (by decide) ?_
            exact EvI.tr hB hE6
        · have hB := hB.2 c
          refine E_aload_n 1 dX5_readColumn_81 rfl rfl rfl ?_
          refine E_aload_n 0 dX5_readColumn_82 rfl rfl rfl ?_
          refine E_gR (j := 2) fG_X5_9 rfl (lo_4 hL5) (lr_4_0 hL5) (by decide) dX5_readColumn_83 ?_
          refine E_gL (v := sL G5 2 5) fG_X5_75 rfl (lo_2 hL5) rfl dX5_readColumn_86 ?_
          refine E_cV (ci := 1) (as := [.long (sL G5 2 5)]) (st := []) cm_X1_tableNamed cV_X5_79 ⟨_, _, rfl⟩ (by decide) (lhO hL5 hh1) rfl rfl (by decide) (Nat.le_of_ble_eq_true rfl) (Nat.le_of_ble_eq_true rfl) dX5_readColumn_89 hB (fun r G9 hr => ?_)
          obtain ⟨r9, rfl, hE9, hB⟩ := hr
          have hL9 : Lay G9.2.2 := by rw [hE9]; exact hL5
          have hE9 : G9.2.2 = G.2.2 := hE9.trans hE5
          show Ev K mX5_readColumn 3 92 [(0, .ref 4), (1, .ref h1), (2, .int x2), (3, .long (sL G2 2 5)), (5, .int (-1))] [.int r9] G9 _
          refine E_istore (lv' := [(0, .ref 4), (1, .ref h1), (2, .int x2), (3, .long (sL G2 2 5)), (5, .int r9)]) dX5_readColumn_92 (by decide) rfl ?_
          refine E_iload 4 dX5_readColumn_94 rfl ?_
          refine E_iconst (v := (-1)) dX5_readColumn_96 (by decide) ?_
          refine E_icmp_ne (tgt := 151) dX5_readColumn_97 (by decide) (fun c => ?_) (fun c => ?_)
          · have hB := hB.1 c
            exact EvI.tr hB hE9
          · have hB := hB.2 c
            refine E_aload_n 0 dX5_readColumn_100 rfl rfl rfl ?_
            refine E_iconst (v := 2) dX5_readColumn_101 (by decide) ?_
            refine E_cV (ci := 5) (as := [.int 2]) (st := []) cm_X5_faultHere cV_X5_61 ⟨_, _, rfl⟩ (by decide) (lo_4 hL9) rfl rfl (by decide) (Nat.le_of_ble_eq_true rfl) (Nat.le_of_ble_eq_true rfl) dX5_readColumn_102 hB (fun r G10 hr => ?_)
            obtain ⟨r10, rfl, hE10, hB⟩ := hr
            have hL10 : Lay G10.2.2 := by rw [hE10]; exact hL9
            have hE10 : G10.2.2 = G.2.2 := hE10.trans hE9
            show Ev K mX5_readColumn 3 105 [(0, .ref 4), (1, .ref h1), (2, .int x2), (3, .long (sL G2 2 5)), (5, .int r9)] [.int r10] G10 _
            exact E_iret rfl dX5_readColumn_105 ⟨_, rfl, hE10, hB⟩
      · have hB := hB.2 c
        refine E_aload_n 0 dX5_readColumn_47 rfl rfl rfl ?_
        refine E_iconst (v := 5) dX5_readColumn_48 (by decide) ?_
        refine E_cV (ci := 5) (as := [.int 5]) (st := []) cm_X5_faultHere cV_X5_61 ⟨_, _, rfl⟩ (by decide) (lo_4 hL2) rfl rfl (by decide) (Nat.le_of_ble_eq_true rfl) (Nat.le_of_ble_eq_true rfl) dX5_readColumn_49 hB (fun r G11 hr => ?_)
        obtain ⟨r11, rfl, hE11, hB⟩ := hr
        have hL11 : Lay G11.2.2 := by rw [hE11]; exact hL2
        have hE11 : G11.2.2 = G.2.2 := hE11.trans hE2
        show Ev K mX5_readColumn 3 52 [(0, .ref 4), (1, .ref h1), (2, .int x2)] [.int r11] G11 _
        exact E_iret rfl dX5_readColumn_52 ⟨_, rfl, hE11, hB⟩
    · have hB := hB.2 c
      refine E_aload_n 0 dX5_readColumn_31 rfl rfl rfl ?_
      refine E_iconst (v := 3) dX5_readColumn_32 (by decide) ?_
      refine E_cV (ci := 5) (as := [.int 3]) (st := []) cm_X5_faultHere cV_X5_61 ⟨_, _, rfl⟩ (by decide) (lo_4 hL2) rfl rfl (by decide) (Nat.le_of_ble_eq_true rfl) (Nat.le_of_ble_eq_true rfl) dX5_readColumn_33 hB (fun r G12 hr => ?_)
      obtain ⟨r12, rfl, hE12, hB⟩ := hr
      have hL12 : Lay G12.2.2 := by rw [hE12]; exact hL2
      have hE12 : G12.2.2 = G.2.2 := hE12.trans hE2
      show Ev K mX5_readColumn 3 36 [(0, .ref 4), (1, .ref h1), (2, .int x2)] [.int r12] G12 _
      exact E_iret rfl dX5_readColumn_36 ⟨_, rfl, hE12, hB⟩
  · have hB := hB.2 c
    refine E_aload_n 0 dX5_readColumn_10 rfl rfl rfl ?_
    refine E_iconst (v := 1) dX5_readColumn_11 (by decide) ?_
    refine E_cV (ci := 5) (as := [.int 1]) (st := []) cm_X5_faultHere cV_X5_61 ⟨_, _, rfl⟩ (by decide) (lo_4 hL1) rfl rfl (by decide) (Nat.le_of_ble_eq_true rfl) (Nat.le_of_ble_eq_true rfl) dX5_readColumn_12 hB (fun r G13 hr => ?_)
    obtain ⟨r13, rfl, hE13, hB⟩ := hr
    have hL13 : Lay G13.2.2 := by rw [hE13]; exact hL1
    have hE13 : G13.2.2 = G.2.2 := hE13.trans hE1
    show Ev K mX5_readColumn 3 15 [(0, .ref 4), (1, .ref h1), (2, .int x2)] [.int r13] G13 _
    exact E_iret rfl dX5_readColumn_15 ⟨_, rfl, hE13, hB⟩

set_option maxRecDepth 20000 in
set_option maxHeartbeats 2000000 in
theorem kX5_readColumn_151 {K : KT} {G : St} {Q : Int32 → St → Prop} {h1 : Nat} {x2 : Int32} {y3 : Int64} {x5 : Int32} (hL : Lay G.2.2) (hh1 : h1 = 39 ∨ h1 = 49)
    (hB : EvV K mX1_addColumn 0 0 [(0, .ref h1), (1, .int x2), (2, .long y3), (4, .int x5)] [] G (fun G1 => EvV K mX7_advance 2 0 [(0, .ref 2)] [] G1 (fun G2 => Q 0 G2))) :
    EvI K mX5_readColumn 3 151 [(0, .ref 4), (1, .ref h1), (2, .int x2), (3, .long y3), (5, .int x5)] [] G Q := by
  refine E_aload_n 1 dX5_readColumn_151 rfl rfl rfl ?_
  refine E_iload_n 2 dX5_readColumn_152 rfl rfl ?_
  refine E_lload_n 3 dX5_readColumn_153 rfl rfl ?_
  refine E_iload 4 dX5_readColumn_154 rfl ?_
  refine E_cV (ci := 1) (as := [.int x2, .long y3, .int x5]) (st := []) cm_X1_addColumn cV_X5_114 ⟨_, _, rfl⟩ (by decide) (lhO hL hh1) rfl rfl (by decide) (Nat.le_of_ble_eq_true rfl) (Nat.le_of_ble_eq_true rfl) dX5_readColumn_156 hB (fun r G1 hr => ?_)
  obtain ⟨rfl, hE1, hB⟩ := hr
  have hL1 : Lay G1.2.2 := by rw [hE1]; exact hL
  have hE1 : G1.2.2 = G.2.2 := hE1
  show Ev K mX5_readColumn 3 159 [(0, .ref 4), (1, .ref h1), (2, .int x2), (3, .long y3), (5, .int x5)] [] G1 _
  refine E_aload_n 0 dX5_readColumn_159 rfl rfl rfl ?_
  refine E_gR (j := 2) fG_X5_9 rfl (lo_4 hL1) (lr_4_0 hL1) (by decide) dX5_readColumn_160 ?_
  refine E_cV (ci := 7) (as := []) (st := []) cm_X7_advance cV_X5_68 ⟨_, _, rfl⟩ (by decide) (lo_2 hL1) rfl rfl (by decide) (Nat.le_of_ble_eq_true rfl) (Nat.le_of_ble_eq_true rfl) dX5_readColumn_163 hB (fun r G2 hr => ?_)
  obtain ⟨rfl, hE2, hB⟩ := hr
  have hL2 : Lay G2.2.2 := by rw [hE2]; exact hL1
  have hE2 : G2.2.2 = G.2.2 := hE2.trans hE1
  show Ev K mX5_readColumn 3 166 [(0, .ref 4), (1, .ref h1), (2, .int x2), (3, .long y3), (5, .int x5)] [] G2 _
  refine E_iconst (v := 0) dX5_readColumn_166 (by decide) ?_
  exact E_iret rfl dX5_readColumn_167 ⟨_, rfl, hE2, hB⟩

set_option maxRecDepth 20000 in
set_option maxHeartbeats 2000000 in
theorem kX5_passSign_0 {K : KT} {G : St} {Q : Int32 → St → Prop} {x1 : Int32} (hL : Lay G.2.2) 
    (hB : EvI K mX7_isSign 0 0 [(0, .ref 2), (1, .int x1)] [] G (fun r1 G1 => ((¬ r1 = 0 → EvV K mX7_advance 2 0 [(0, .ref 2)] [] G1 (fun G2 => Q 0 G2)) ∧ (r1 = 0 → EvI K mX5_faultHere 0 0 [(0, .ref 4), (1, .int 1)] [] G1 (fun r3 G3 => Q r3 G3))))) :
    EvI K mX5_passSign 3 0 [(0, .ref 4), (1, .int x1)] [] G Q := by
  refine E_aload_n 0 dX5_passSign_0 rfl rfl rfl ?_
  refine E_gR (j := 2) fG_X5_9 rfl (lo_4 hL) (lr_4_0 hL) (by decide) dX5_passSign_1 ?_
  refine E_iload_n 1 dX5_passSign_4 rfl rfl ?_
  refine E_cV (ci := 7) (as := [.int x1]) (st := []) cm_X7_isSign cV_X5_94 ⟨_, _, rfl⟩ (by decide) (lo_2 hL) rfl rfl (by decide) (Nat.le_of_ble_eq_true rfl) (Nat.le_of_ble_eq_true rfl) dX5_passSign_5 hB (fun r G1 hr => ?_)
  obtain ⟨r1, rfl, hE1, hB⟩ := hr
  have hL1 : Lay G1.2.2 := by rw [hE1]; exact hL
  have hE1 : G1.2.2 = G.2.2 := hE1
  show Ev K mX5_passSign 3 8 [(0, .ref 4), (1, .int x1)] [.int r1] G1 _
  refine E_if_ne (tgt := 17) dX5_passSign_8 (by decide) (fun c => ?_) (fun c => ?_)
  · have hB := hB.1 c
    refine E_aload_n 0 dX5_passSign_17 rfl rfl rfl ?_
    refine E_gR (j := 2) fG_X5_9 rfl (lo_4 hL1) (lr_4_0 hL1) (by decide) dX5_passSign_18 ?_
    refine E_cV (ci := 7) (as := []) (st := []) cm_X7_advance cV_X5_68 ⟨_, _, rfl⟩ (by decide) (lo_2 hL1) rfl rfl (by decide) (Nat.le_of_ble_eq_true rfl) (Nat.le_of_ble_eq_true rfl) dX5_passSign_21 hB (fun r G2 hr => ?_)
    obtain ⟨rfl, hE2, hB⟩ := hr
    have hL2 : Lay G2.2.2 := by rw [hE2]; exact hL1
    have hE2 : G2.2.2 = G.2.2 := hE2.trans hE1
    show Ev K mX5_passSign 3 24 [(0, .ref 4), (1, .int x1)] [] G2 _
    refine E_iconst (v := 0) dX5_passSign_24 (by decide) ?_
    exact E_iret rfl dX5_passSign_25 ⟨_, rfl, hE2, hB⟩
  · have hB := hB.2 c
    refine E_aload_n 0 dX5_passSign_11 rfl rfl rfl ?_
    refine E_iconst (v := 1) dX5_passSign_12 (by decide) ?_
    refine E_cV (ci := 5) (as := [.int 1]) (st := []) cm_X5_faultHere cV_X5_61 ⟨_, _, rfl⟩ (by decide) (lo_4 hL1) rfl rfl (by decide) (Nat.le_of_ble_eq_true rfl) (Nat.le_of_ble_eq_true rfl) dX5_passSign_13 hB (fun r G3 hr => ?_)
    obtain ⟨r3, rfl, hE3, hB⟩ := hr
    have hL3 : Lay G3.2.2 := by rw [hE3]; exact hL1
    have hE3 : G3.2.2 = G.2.2 := hE3.trans hE1
    show Ev K mX5_passSign 3 16 [(0, .ref 4), (1, .int x1)] [.int r3] G3 _
    exact E_iret rfl dX5_passSign_16 ⟨_, rfl, hE3, hB⟩

set_option maxRecDepth 20000 in
set_option maxHeartbeats 2000000 in
theorem kX5_readColumns_0 {K : KT} {G : St} {Q : Int32 → St → Prop} {h1 : Nat} {x2 : Int32} (hL : Lay G.2.2) (hh1 : h1 = 39 ∨ h1 = 49)
    (hB : EvI K mX5_readColumns 4 5 [(0, .ref 4), (1, .ref h1), (2, .int x2), (3, .int 0), (4, .int 0)] [] G Q) :
    EvI K mX5_readColumns 4 0 [(0, .ref 4), (1, .ref h1), (2, .int x2)] [] G Q := by
  refine E_iconst (v := 0) dX5_readColumns_0 (by decide) ?_
  refine E_istore_n (lv' := [(0, .ref 4), (1, .ref h1), (2, .int x2), (3, .int 0)]) dX5_readColumns_1 rfl (by decide) rfl ?_
  refine E_iconst (v := 0) dX5_readColumns_2 (by decide) ?_
  refine E_istore (lv' := [(0, .ref 4), (1, .ref h1), (2, .int x2), (3, .int 0), (4, .int 0)]) dX5_readColumns_3 (by decide) rfl ?_
  exact EvI.tr hB rfl

set_option maxRecDepth 20000 in
set_option maxHeartbeats 2000000 in
theorem kX5_readColumns_5 {K : KT} {G : St} {Q : Int32 → St → Prop} {h1 : Nat} {x2 : Int32} {x3 : Int32} {x4 : Int32} (hL : Lay G.2.2) (hh1 : h1 = 39 ∨ h1 = 49)
    (hB : ((4 < x4 → EvI K mX5_readColumns 4 50 [(0, .ref 4), (3, .int x3)] [] G Q) ∧ (¬ 4 < x4 → EvV K mX7_advance 2 0 [(0, .ref 2)] [] G (fun G1 => EvI K mX5_readColumn 3 0 [(0, .ref 4), (1, .ref h1), (2, .int x2)] [] G1 (fun r2 G2 => ((¬ r2 = 0 → EvI K mX5_readColumns 4 50 [(0, .ref 4), (3, .int r2)] [] G2 Q) ∧ (r2 = 0 → EvI K mX7_isSign 0 0 [(0, .ref 2), (1, .int 44)] [] G2 (fun r3 G3 => ((¬ r3 = 0 → EvI K mX5_readColumns 4 5 [(0, .ref 4), (1, .ref h1), (2, .int x2), (3, .int r2), (4, .int (x4 + 1))] [] G3 Q) ∧ (r3 = 0 → EvI K mX5_readColumns 4 50 [(0, .ref 4), (3, .int r2)] [] G3 Q)))))))))) :
    EvI K mX5_readColumns 4 5 [(0, .ref 4), (1, .ref h1), (2, .int x2), (3, .int x3), (4, .int x4)] [] G Q := by
  refine E_iload 4 dX5_readColumns_5 rfl ?_
  refine E_iconst (v := 4) dX5_readColumns_7 (by decide) ?_
  refine E_icmp_gt (tgt := 50) dX5_readColumns_8 (by decide) (fun c => ?_) (fun c => ?_)
  · have hB := hB.1 c
    refine E_sub (lv' := [(0, .ref 4), (3, .int x3)]) [0, 3] rfl ?_
    exact EvI.tr hB rfl
  · have hB := hB.2 c
    refine E_aload_n 0 dX5_readColumns_11 rfl rfl rfl ?_
    refine E_gR (j := 2) fG_X5_9 rfl (lo_4 hL) (lr_4_0 hL) (by decide) dX5_readColumns_12 ?_
    refine E_cV (ci := 7) (as := []) (st := []) cm_X7_advance cV_X5_68 ⟨_, _, rfl⟩ (by decide) (lo_2 hL) rfl rfl (by decide) (Nat.le_of_ble_eq_true rfl) (Nat.le_of_ble_eq_true rfl) dX5_readColumns_15 hB (fun r G1 hr => ?_)
    obtain ⟨rfl, hE1, hB⟩ := hr
    have hL1 : Lay G1.2.2 := by rw [hE1]; exact hL
    have hE1 : G1.2.2 = G.2.2 := hE1
    show Ev K mX5_readColumns 4 18 [(0, .ref 4), (1, .ref h1), (2, .int x2), (3, .int x3), (4, .int x4)] [] G1 _
    refine E_aload_n 0 dX5_readColumns_18 rfl rfl rfl ?_
    refine E_aload_n 1 dX5_readColumns_19 rfl rfl rfl ?_
    refine E_iload_n 2 dX5_readColumns_20 rfl rfl ?_
    refine E_cV (ci := 5) (as := [.ref h1, .int x2]) (st := []) cm_X5_readColumn cV_X5_91 ⟨_, _, rfl⟩ (by decide) (lo_4 hL1) rfl rfl (by decide) (Nat.le_of_ble_eq_true rfl) (Nat.le_of_ble_eq_true rfl) dX5_readColumns_21 hB (fun r G2 hr => ?_)
    obtain ⟨r2, rfl, hE2, hB⟩ := hr
    have hL2 : Lay G2.2.2 := by rw [hE2]; exact hL1
    have hE2 : G2.2.2 = G.2.2 := hE2.trans hE1
    show Ev K mX5_readColumns 4 24 [(0, .ref 4), (1, .ref h1), (2, .int x2), (3, .int x3), (4, .int x4)] [.int r2] G2 _
    refine E_istore_n (lv' := [(0, .ref 4), (1, .ref h1), (2, .int x2), (3, .int r2), (4, .int x4)]) dX5_readColumns_24 rfl (by decide) rfl ?_
    refine E_iload_n 3 dX5_readColumns_25 rfl rfl ?_
    refine E_if_ne (tgt := 50) dX5_readColumns_26 (by decide) (fun c => ?_) (fun c => ?_)
    · have hB := hB.1 c
      refine E_sub (lv' := [(0, .ref 4), (3, .int r2)]) [0, 3] rfl ?_
      exact EvI.tr hB hE2
    · have hB := hB.2 c
      refine E_aload_n 0 dX5_readColumns_29 rfl rfl rfl ?_
      refine E_gR (j := 2) fG_X5_9 rfl (lo_4 hL2) (lr_4_0 hL2) (by decide) dX5_readColumns_30 ?_
      refine E_bipush (v := 44) dX5_readColumns_33 (by decide) ?_
      refine E_cV (ci := 7) (as := [.int 44]) (st := []) cm_X7_isSign cV_X5_94 ⟨_, _, rfl⟩ (by decide) (lo_2 hL2) rfl rfl (by decide) (Nat.le_of_ble_eq_true rfl) (Nat.le_of_ble_eq_true rfl) dX5_readColumns_35 hB (fun r G3 hr => ?_)
      obtain ⟨r3, rfl, hE3, hB⟩ := hr
      have hL3 : Lay G3.2.2 := by rw [hE3]; exact hL2
      have hE3 : G3.2.2 = G.2.2 := hE3.trans hE2
      show Ev K mX5_readColumns 4 38 [(0, .ref 4), (1, .ref h1), (2, .int x2), (3, .int r2), (4, .int x4)] [.int r3] G3 _
      refine E_if_ne (tgt := 44) dX5_readColumns_38 (by decide) (fun c => ?_) (fun c => ?_)
      · have hB := hB.1 c
        refine E_iinc (v := x4 + 1) (lv' := [(0, .ref 4), (1, .ref h1), (2, .int x2), (3, .int r2), (4, .int (x4 + 1))]) 4 dX5_readColumns_44 rfl rfl (by decide) rfl ?_
        refine E_goto (tgt := 5) dX5_readColumns_47 (by decide) ?_
        exact EvI.tr hB hE3
      · have hB := hB.2 c
        refine E_goto (tgt := 50) dX5_readColumns_41 (by decide) ?_
        refine E_sub (lv' := [(0, .ref 4), (3, .int r2)]) [0, 3] rfl ?_
        exact EvI.tr hB hE3

set_option maxRecDepth 20000 in
set_option maxHeartbeats 2000000 in
theorem kX5_readColumns_50 {K : KT} {G : St} {Q : Int32 → St → Prop} {x3 : Int32} (hL : Lay G.2.2) 
    (hB : ((x3 = 0 → EvI K mX5_passSign 3 0 [(0, .ref 4), (1, .int 59)] [] G (fun r1 G1 => Q r1 G1)) ∧ (¬ x3 = 0 → Q x3 G))) :
    EvI K mX5_readColumns 4 50 [(0, .ref 4), (3, .int x3)] [] G Q := by
  refine E_iload_n 1 dX5_readColumns_50 rfl rfl ?_
  refine E_if_eq (tgt := 58) dX5_readColumns_51 (by decide) (fun c => ?_) (fun c => ?_)
  · have hB := hB.1 c
    refine E_aload_n 0 dX5_readColumns_58 rfl rfl rfl ?_
    refine E_bipush (v := 59) dX5_readColumns_59 (by decide) ?_
    refine E_cV (ci := 5) (as := [.int 59]) (st := []) cm_X5_passSign cV_X5_98 ⟨_, _, rfl⟩ (by decide) (lo_4 hL) rfl rfl (by decide) (Nat.le_of_ble_eq_true rfl) (Nat.le_of_ble_eq_true rfl) dX5_readColumns_61 hB (fun r G1 hr => ?_)
    obtain ⟨r1, rfl, hE1, hB⟩ := hr
    have hL1 : Lay G1.2.2 := by rw [hE1]; exact hL
    have hE1 : G1.2.2 = G.2.2 := hE1
    show Ev K mX5_readColumns 4 64 [(0, .ref 4), (3, .int x3)] [.int r1] G1 _
    exact E_iret rfl dX5_readColumns_64 ⟨_, rfl, hE1, hB⟩
  · have hB := hB.2 c
    refine E_iload_n 1 dX5_readColumns_54 rfl rfl ?_
    refine E_goto (tgt := 64) dX5_readColumns_55 (by decide) ?_
    exact E_iret rfl dX5_readColumns_64 ⟨_, rfl, rfl, hB⟩

set_option maxRecDepth 20000 in
set_option maxHeartbeats 2000000 in
theorem kX5_readTable_0 {K : KT} {G : St} {Q : Int32 → St → Prop} {h1 : Nat} (hL : Lay G.2.2) (hh1 : h1 = 39 ∨ h1 = 49)
    (hB : EvI K mX7_isWord 0 0 [(0, .ref 2), (1, .long 10650290)] [] G (fun r1 G1 => ((¬ r1 = 0 → (((sI G1 h1 9) < 5 → EvV K mX7_advance 2 0 [(0, .ref 2)] [] G1 (fun G2 => EvI K mX7_isName 1 0 [(0, .ref 2)] [] G2 (fun r3 G3 => ((¬ r3 = 0 → EvI K mX1_tableNamed 0 0 [(0, .ref h1), (1, .long (sL G3 2 5))] [] G3 (fun r4 G4 => ((r4 = (-1) → EvV K mX1_addTable 0 0 [(0, .ref h1), (1, .long (sL G4 2 5))] [] G4 (fun G5 => EvI K mX5_readColumns 4 0 [(0, .ref 4), (1, .ref h1), (2, .int ((sI G5 h1 9) - 1))] [] G5 (fun r6 G6 => Q r6 G6))) ∧ (¬ r4 = (-1) → EvI K mX5_faultHere 0 0 [(0, .ref 4), (1, .int 3)] [] G4 (fun r7 G7 => Q r7 G7))))) ∧ (r3 = 0 → EvI K mX5_faultHere 0 0 [(0, .ref 4), (1, .int 1)] [] G3 (fun r8 G8 => Q r8 G8)))))) ∧ (¬ (sI G1 h1 9) < 5 → EvI K mX5_faultHere 0 0 [(0, .ref 4), (1, .int 5)] [] G1 (fun r9 G9 => Q r9 G9)))) ∧ (r1 = 0 → EvI K mX5_faultHere 0 0 [(0, .ref 4), (1, .int 1)] [] G1 (fun r10 G10 => Q r10 G10))))) :
    EvI K mX5_readTable 5 0 [(0, .ref 4), (1, .ref h1)] [] G Q := by
  refine E_aload_n 0 dX5_readTable_0 rfl rfl rfl ?_
  refine E_gR (j := 2) fG_X5_9 rfl (lo_4 hL) (lr_4_0 hL) (by decide) dX5_readTable_1 ?_
  refine E_ldc2 (v := 10650290) tm_490 dX5_readTable_4 ?_
  refine E_cV (ci := 7) (as := [.long 10650290]) (st := []) cm_X7_isWord cV_X5_57 ⟨_, _, rfl⟩ (by decide) (lo_2 hL) rfl rfl (by decide) (Nat.le_of_ble_eq_true rfl) (Nat.le_of_ble_eq_true rfl) dX5_readTable_7 hB (fun r G1 hr => ?_)
  obtain ⟨r1, rfl, hE1, hB⟩ := hr
  have hL1 : Lay G1.2.2 := by rw [hE1]; exact hL
  have hE1 : G1.2.2 = G.2.2 := hE1
  show Ev K mX5_readTable 5 10 [(0, .ref 4), (1, .ref h1)] [.int r1] G1 _
  refine E_if_ne (tgt := 19) dX5_readTable_10 (by decide) (fun c => ?_) (fun c => ?_)
  · have hB := hB.1 c
    refine E_aload_n 1 dX5_readTable_19 rfl rfl rfl ?_
    refine E_gI (v := sI G1 h1 9) fG_X5_65 rfl (lhO hL1 hh1) rfl dX5_readTable_20 ?_
    refine E_iconst (v := 5) dX5_readTable_23 (by decide) ?_
    refine E_icmp_lt (tgt := 33) dX5_readTable_24 (by decide) (fun c => ?_) (fun c => ?_)
    · have hB := hB.1 c
      refine E_aload_n 0 dX5_readTable_33 rfl rfl rfl ?_
      refine E_gR (j := 2) fG_X5_9 rfl (lo_4 hL1) (lr_4_0 hL1) (by decide) dX5_readTable_34 ?_
      refine E_cV (ci := 7) (as := []) (st := []) cm_X7_advance cV_X5_68 ⟨_, _, rfl⟩ (by decide) (lo_2 hL1) rfl rfl (by decide) (Nat.le_of_ble_eq_true rfl) (Nat.le_of_ble_eq_true rfl) dX5_readTable_37 hB (fun r G2 hr => ?_)
      obtain ⟨rfl, hE2, hB⟩ := hr
      have hL2 : Lay G2.2.2 := by rw [hE2]; exact hL1
      have hE2 : G2.2.2 = G.2.2 := hE2.trans hE1
      show Ev K mX5_readTable 5 40 [(0, .ref 4), (1, .ref h1)] [] G2 _
      refine E_aload_n 0 dX5_readTable_40 rfl rfl rfl ?_
      refine E_gR (j := 2) fG_X5_9 rfl (lo_4 hL2) (lr_4_0 hL2) (by decide) dX5_readTable_41 ?_
      refine E_cV (ci := 7) (as := []) (st := []) cm_X7_isName cV_X5_71 ⟨_, _, rfl⟩ (by decide) (lo_2 hL2) rfl rfl (by decide) (Nat.le_of_ble_eq_true rfl) (Nat.le_of_ble_eq_true rfl) dX5_readTable_44 hB (fun r G3 hr => ?_)
      obtain ⟨r3, rfl, hE3, hB⟩ := hr
      have hL3 : Lay G3.2.2 := by rw [hE3]; exact hL2
      have hE3 : G3.2.2 = G.2.2 := hE3.trans hE2
      show Ev K mX5_readTable 5 47 [(0, .ref 4), (1, .ref h1)] [.int r3] G3 _
      refine E_if_ne (tgt := 56) dX5_readTable_47 (by decide) (fun c => ?_) (fun c => ?_)
      · have hB := hB.1 c
        refine E_aload_n 1 dX5_readTable_56 rfl rfl rfl ?_
        refine E_aload_n 0 dX5_readTable_57 rfl rfl rfl ?_
        refine E_gR (j := 2) fG_X5_9 rfl (lo_4 hL3) (lr_4_0 hL3) (by decide) dX5_readTable_58 ?_
        refine E_gL (v := sL G3 2 5) fG_X5_75 rfl (lo_2 hL3) rfl dX5_readTable_61 ?_
        refine E_cV (ci := 1) (as := [.long (sL G3 2 5)]) (st := []) cm_X1_tableNamed cV_X5_79 ⟨_, _, rfl⟩ (by decide) (lhO hL3 hh1) rfl rfl (by decide) (Nat.le_of_ble_eq_true rfl) (Nat.le_of_ble_eq_true rfl) dX5_readTable_64 hB (fun r G4 hr => ?_)
        obtain ⟨r4, rfl, hE4, hB⟩ := hr
        have hL4 : Lay G4.2.2 := by rw [hE4]; exact hL3
        have hE4 : G4.2.2 = G.2.2 := hE4.trans hE3
        show Ev K mX5_readTable 5 67 [(0, .ref 4), (1, .ref h1)] [.int r4] G4 _
        refine E_iconst (v := (-1)) dX5_readTable_67 (by decide) ?_
        refine E_icmp_eq (tgt := 77) dX5_readTable_68 (by decide) (fun c => ?_) (fun c => ?_)
        · have hB := hB.1 c
          refine E_aload_n 1 dX5_readTable_77 rfl rfl rfl ?_
          refine E_aload_n 0 dX5_readTable_78 rfl rfl rfl ?_
          refine E_gR (j := 2) fG_X5_9 rfl (lo_4 hL4) (lr_4_0 hL4) (by decide) dX5_readTable_79 ?_
          refine E_gL (v := sL G4 2 5) fG_X5_75 rfl (lo_2 hL4) rfl dX5_readTable_82 ?_
          refine E_cV (ci := 1) (as := [.long (sL G4 2 5)]) (st := []) cm_X1_addTable cV_X5_83 ⟨_, _, rfl⟩ (by decide) (lhO hL4 hh1) rfl rfl (by decide) (Nat.le_of_ble_eq_true rfl) (Nat.le_of_ble_eq_true rfl) dX5_readTable_85 hB (fun r G5 hr => ?_)
          obtain ⟨rfl, hE5, hB⟩ := hr
          have hL5 : Lay G5.2.2 := by rw [hE5]; exact hL4
          have hE5 : G5.2.2 = G.2.2 := hE5.trans hE4
          show Ev K mX5_readTable 5 88 [(0, .ref 4), (1, .ref h1)] [] G5 _
          refine E_aload_n 0 dX5_readTable_88 rfl rfl rfl ?_
          refine E_aload_n 1 dX5_readTable_89 rfl rfl rfl ?_
          refine E_aload_n 1 dX5_readTable_90 rfl rfl rfl ?_
          refine E_gI (v := sI G5 h1 9) fG_X5_65 rfl (lhO hL5 hh1) rfl dX5_readTable_91 ?_
          refine E_iconst (v := 1) dX5_readTable_94 (by decide) ?_
          refine E_isub dX5_readTable_95 ?_
          refine E_cV (ci := 5) (as := [.ref h1, .int ((sI G5 h1 9) - 1)]) (st := []) cm_X5_readColumns cV_X5_87 ⟨_, _, rfl⟩ (by decide) (lo_4 hL5) rfl rfl (by decide) (Nat.le_of_ble_eq_true rfl) (Nat.le_of_ble_eq_true rfl) dX5_readTable_96 hB (fun r G6 hr => ?_)
          obtain ⟨r6, rfl, hE6, hB⟩ := hr
          have hL6 : Lay G6.2.2 := by rw [hE6]; exact hL5
          have hE6 : G6.2.2 = G.2.2 := hE6.trans hE5
          show Ev K mX5_readTable 5 99 [(0, .ref 4), (1, .ref h1)] [.int r6] G6 _
          exact E_iret rfl dX5_readTable_99 ⟨_, rfl, hE6, hB⟩
        · have hB := hB.2 c
          refine E_aload_n 0 dX5_readTable_71 rfl rfl rfl ?_
          refine E_iconst (v := 3) dX5_readTable_72 (by decide) ?_
          refine E_cV (ci := 5) (as := [.int 3]) (st := []) cm_X5_faultHere cV_X5_61 ⟨_, _, rfl⟩ (by decide) (lo_4 hL4) rfl rfl (by decide) (Nat.le_of_ble_eq_true rfl) (Nat.le_of_ble_eq_true rfl) dX5_readTable_73 hB (fun r G7 hr => ?_)
          obtain ⟨r7, rfl, hE7, hB⟩ := hr
          have hL7 : Lay G7.2.2 := by rw [hE7]; exact hL4
          have hE7 : G7.2.2 = G.2.2 := hE7.trans hE4
          show Ev K mX5_readTable 5 76 [(0, .ref 4), (1, .ref h1)] [.int r7] G7 _
          exact E_iret rfl dX5_readTable_76 ⟨_, rfl, hE7, hB⟩
      · have hB := hB.2 c
        refine E_aload_n 0 dX5_readTable_50 rfl rfl rfl ?_
        refine E_iconst (v := 1) dX5_readTable_51 (by decide) ?_
        refine E_cV (ci := 5) (as := [.int 1]) (st := []) cm_X5_faultHere cV_X5_61 ⟨_, _, rfl⟩ (by decide) (lo_4 hL3) rfl rfl (by decide) (Nat.le_of_ble_eq_true rfl) (Nat.le_of_ble_eq_true rfl) dX5_readTable_52 hB (fun r G8 hr => ?_)
        obtain ⟨r8, rfl, hE8, hB⟩ := hr
        have hL8 : Lay G8.2.2 := by rw [hE8]; exact hL3
        have hE8 : G8.2.2 = G.2.2 := hE8.trans hE3
        show Ev K mX5_readTable 5 55 [(0, .ref 4), (1, .ref h1)] [.int r8] G8 _
        exact E_iret rfl dX5_readTable_55 ⟨_, rfl, hE8, hB⟩
    · have hB := hB.2 c
      refine E_aload_n 0 dX5_readTable_27 rfl rfl rfl ?_
      refine E_iconst (v := 5) dX5_readTable_28 (by decide) ?_
      refine E_cV (ci := 5) (as := [.int 5]) (st := []) cm_X5_faultHere cV_X5_61 ⟨_, _, rfl⟩ (by decide) (lo_4 hL1) rfl rfl (by decide) (Nat.le_of_ble_eq_true rfl) (Nat.le_of_ble_eq_true rfl) dX5_readTable_29 hB (fun r G9 hr => ?_)
      obtain ⟨r9, rfl, hE9, hB⟩ := hr
      have hL9 : Lay G9.2.2 := by rw [hE9]; exact hL1
      have hE9 : G9.2.2 = G.2.2 := hE9.trans hE1
      show Ev K mX5_readTable 5 32 [(0, .ref 4), (1, .ref h1)] [.int r9] G9 _
      exact E_iret rfl dX5_readTable_32 ⟨_, rfl, hE9, hB⟩
  · have hB := hB.2 c
    refine E_aload_n 0 dX5_readTable_13 rfl rfl rfl ?_
    refine E_iconst (v := 1) dX5_readTable_14 (by decide) ?_
    refine E_cV (ci := 5) (as := [.int 1]) (st := []) cm_X5_faultHere cV_X5_61 ⟨_, _, rfl⟩ (by decide) (lo_4 hL1) rfl rfl (by decide) (Nat.le_of_ble_eq_true rfl) (Nat.le_of_ble_eq_true rfl) dX5_readTable_15 hB (fun r G10 hr => ?_)
    obtain ⟨r10, rfl, hE10, hB⟩ := hr
    have hL10 : Lay G10.2.2 := by rw [hE10]; exact hL1
    have hE10 : G10.2.2 = G.2.2 := hE10.trans hE1
    show Ev K mX5_readTable 5 18 [(0, .ref 4), (1, .ref h1)] [.int r10] G10 _
    exact E_iret rfl dX5_readTable_18 ⟨_, rfl, hE10, hB⟩

set_option maxRecDepth 20000 in
set_option maxHeartbeats 2000000 in
theorem kX5_readTables_0 {K : KT} {G : St} {Q : Int32 → St → Prop} {h1 : Nat} (hL : Lay G.2.2) (hh1 : h1 = 39 ∨ h1 = 49)
    (hB : EvV K mX1_clear 1 0 [(0, .ref h1)] [] G (fun G1 => EvV K mX7_rewind 3 0 [(0, .ref 2)] [] G1 (fun G2 => EvI K mX5_readTables 6 15 [(0, .ref 4), (1, .ref h1), (2, .int 0), (3, .int 0)] [] G2 Q))) :
    EvI K mX5_readTables 6 0 [(0, .ref 4), (1, .ref h1)] [] G Q := by
  refine E_aload_n 1 dX5_readTables_0 rfl rfl rfl ?_
  refine E_cV (ci := 1) (as := []) (st := []) cm_X1_clear cV_X5_15 ⟨_, _, rfl⟩ (by decide) (lhO hL hh1) rfl rfl (by decide) (Nat.le_of_ble_eq_true rfl) (Nat.le_of_ble_eq_true rfl) dX5_readTables_1 hB (fun r G1 hr => ?_)
  obtain ⟨rfl, hE1, hB⟩ := hr
  have hL1 : Lay G1.2.2 := by rw [hE1]; exact hL
  have hE1 : G1.2.2 = G.2.2 := hE1
  show Ev K mX5_readTables 6 4 [(0, .ref 4), (1, .ref h1)] [] G1 _
  refine E_aload_n 0 dX5_readTables_4 rfl rfl rfl ?_
  refine E_gR (j := 2) fG_X5_9 rfl (lo_4 hL1) (lr_4_0 hL1) (by decide) dX5_readTables_5 ?_
  refine E_cV (ci := 7) (as := []) (st := []) cm_X7_rewind cV_X5_20 ⟨_, _, rfl⟩ (by decide) (lo_2 hL1) rfl rfl (by decide) (Nat.le_of_ble_eq_true rfl) (Nat.le_of_ble_eq_true rfl) dX5_readTables_8 hB (fun r G2 hr => ?_)
  obtain ⟨rfl, hE2, hB⟩ := hr
  have hL2 : Lay G2.2.2 := by rw [hE2]; exact hL1
  have hE2 : G2.2.2 = G.2.2 := hE2.trans hE1
  show Ev K mX5_readTables 6 11 [(0, .ref 4), (1, .ref h1)] [] G2 _
  refine E_iconst (v := 0) dX5_readTables_11 (by decide) ?_
  refine E_istore_n (lv' := [(0, .ref 4), (1, .ref h1), (2, .int 0)]) dX5_readTables_12 rfl (by decide) rfl ?_
  refine E_iconst (v := 0) dX5_readTables_13 (by decide) ?_
  refine E_istore_n (lv' := [(0, .ref 4), (1, .ref h1), (2, .int 0), (3, .int 0)]) dX5_readTables_14 rfl (by decide) rfl ?_
  exact EvI.tr hB hE2

set_option maxRecDepth 20000 in
set_option maxHeartbeats 2000000 in
theorem kX5_readTables_15 {K : KT} {G : St} {Q : Int32 → St → Prop} {h1 : Nat} {x2 : Int32} {x3 : Int32} (hL : Lay G.2.2) (hh1 : h1 = 39 ∨ h1 = 49)
    (hB : ((5 < x3 → Q x2 G) ∧ (¬ 5 < x3 → ((¬ x2 = 0 → Q x2 G) ∧ (x2 = 0 → (((sI G 2 3) = 0 → Q x2 G) ∧ (¬ (sI G 2 3) = 0 → EvI K mX5_readTable 5 0 [(0, .ref 4), (1, .ref h1)] [] G (fun r1 G1 => EvI K mX5_readTables 6 15 [(0, .ref 4), (1, .ref h1), (2, .int r1), (3, .int (x3 + 1))] [] G1 Q)))))))) :
    EvI K mX5_readTables 6 15 [(0, .ref 4), (1, .ref h1), (2, .int x2), (3, .int x3)] [] G Q := by
  refine E_iload_n 3 dX5_readTables_15 rfl rfl ?_
  refine E_iconst (v := 5) dX5_readTables_16 (by decide) ?_
  refine E_icmp_gt (tgt := 46) dX5_readTables_17 (by decide) (fun c => ?_) (fun c => ?_)
  · have hB := hB.1 c
    refine E_iload_n 2 dX5_readTables_46 rfl rfl ?_
    exact E_iret rfl dX5_readTables_47 ⟨_, rfl, rfl, hB⟩
  · have hB := hB.2 c
    refine E_iload_n 2 dX5_readTables_20 rfl rfl ?_
    refine E_if_ne (tgt := 46) dX5_readTables_21 (by decide) (fun c => ?_) (fun c => ?_)
    · have hB := hB.1 c
      refine E_iload_n 2 dX5_readTables_46 rfl rfl ?_
      exact E_iret rfl dX5_readTables_47 ⟨_, rfl, rfl, hB⟩
    · have hB := hB.2 c
      refine E_aload_n 0 dX5_readTables_24 rfl rfl rfl ?_
      refine E_gR (j := 2) fG_X5_9 rfl (lo_4 hL) (lr_4_0 hL) (by decide) dX5_readTables_25 ?_
      refine E_gI (v := sI G 2 3) fG_X5_25 rfl (lo_2 hL) rfl dX5_readTables_28 ?_
      refine E_if_eq (tgt := 46) dX5_readTables_31 (by decide) (fun c => ?_) (fun c => ?_)
      · have hB := hB.1 c
        refine E_iload_n 2 dX5_readTables_46 rfl rfl ?_
        exact E_iret rfl dX5_readTables_47 ⟨_, rfl, rfl, hB⟩
      · have hB := hB.2 c
        refine E_aload_n 0 dX5_readTables_34 rfl rfl rfl ?_
        refine E_aload_n 1 dX5_readTables_35 rfl rfl rfl ?_
        refine E_cV (ci := 5) (as := [.ref h1]) (st := []) cm_X5_readTable cV_X5_29 ⟨_, _, rfl⟩ (by decide) (lo_4 hL) rfl rfl (by decide) (Nat.le_of_ble_eq_true rfl) (Nat.le_of_ble_eq_true rfl) dX5_readTables_36 hB (fun r G1 hr => ?_)
        obtain ⟨r1, rfl, hE1, hB⟩ := hr
        have hL1 : Lay G1.2.2 := by rw [hE1]; exact hL
        have hE1 : G1.2.2 = G.2.2 := hE1
        show Ev K mX5_readTables 6 39 [(0, .ref 4), (1, .ref h1), (2, .int x2), (3, .int x3)] [.int r1] G1 _
        refine E_istore_n (lv' := [(0, .ref 4), (1, .ref h1), (2, .int r1), (3, .int x3)]) dX5_readTables_39 rfl (by decide) rfl ?_
        refine E_iinc (v := x3 + 1) (lv' := [(0, .ref 4), (1, .ref h1), (2, .int r1), (3, .int (x3 + 1))]) 3 dX5_readTables_40 rfl rfl (by decide) rfl ?_
        refine E_goto (tgt := 15) dX5_readTables_43 (by decide) ?_
        exact EvI.tr hB hE1

set_option maxRecDepth 20000 in
set_option maxHeartbeats 2000000 in
theorem kX5_faultOfTableName_0 {K : KT} {G : St} {Q : Int32 → St → Prop} {h1 : Nat} (hL : Lay G.2.2) (hh1 : h1 = 39 ∨ h1 = 49)
    (hB : EvI K mX7_isName 1 0 [(0, .ref 2)] [] G (fun r1 G1 => ((¬ r1 = 0 → EvI K mX1_tableNamed 0 0 [(0, .ref h1), (1, .long (sL G1 2 5))] [] G1 (fun r2 G2 => ((¬ r2 = (-1) → Q 0 G2) ∧ (r2 = (-1) → EvI K mX5_faultHere 0 0 [(0, .ref 4), (1, .int 2)] [] G2 (fun r3 G3 => Q r3 G3))))) ∧ (r1 = 0 → EvI K mX5_faultHere 0 0 [(0, .ref 4), (1, .int 1)] [] G1 (fun r4 G4 => Q r4 G4))))) :
    EvI K mX5_faultOfTableName 2 0 [(0, .ref 4), (1, .ref h1)] [] G Q := by
  refine E_aload_n 0 dX5_faultOfTableName_0 rfl rfl rfl ?_
  refine E_gR (j := 2) fG_X5_9 rfl (lo_4 hL) (lr_4_0 hL) (by decide) dX5_faultOfTableName_1 ?_
  refine E_cV (ci := 7) (as := []) (st := []) cm_X7_isName cV_X5_71 ⟨_, _, rfl⟩ (by decide) (lo_2 hL) rfl rfl (by decide) (Nat.le_of_ble_eq_true rfl) (Nat.le_of_ble_eq_true rfl) dX5_faultOfTableName_4 hB (fun r G1 hr => ?_)
  obtain ⟨r1, rfl, hE1, hB⟩ := hr
  have hL1 : Lay G1.2.2 := by rw [hE1]; exact hL
  have hE1 : G1.2.2 = G.2.2 := hE1
  show Ev K mX5_faultOfTableName 2 7 [(0, .ref 4), (1, .ref h1)] [.int r1] G1 _
  refine E_if_ne (tgt := 16) dX5_faultOfTableName_7 (by decide) (fun c => ?_) (fun c => ?_)
  · have hB := hB.1 c
    refine E_aload_n 1 dX5_faultOfTableName_16 rfl rfl rfl ?_
    refine E_aload_n 0 dX5_faultOfTableName_17 rfl rfl rfl ?_
    refine E_gR (j := 2) fG_X5_9 rfl (lo_4 hL1) (lr_4_0 hL1) (by decide) dX5_faultOfTableName_18 ?_
    refine E_gL (v := sL G1 2 5) fG_X5_75 rfl (lo_2 hL1) rfl dX5_faultOfTableName_21 ?_
    refine E_cV (ci := 1) (as := [.long (sL G1 2 5)]) (st := []) cm_X1_tableNamed cV_X5_79 ⟨_, _, rfl⟩ (by decide) (lhO hL1 hh1) rfl rfl (by decide) (Nat.le_of_ble_eq_true rfl) (Nat.le_of_ble_eq_true rfl) dX5_faultOfTableName_24 hB (fun r G2 hr => ?_)
    obtain ⟨r2, rfl, hE2, hB⟩ := hr
    have hL2 : Lay G2.2.2 := by rw [hE2]; exact hL1
    have hE2 : G2.2.2 = G.2.2 := hE2.trans hE1
    show Ev K mX5_faultOfTableName 2 27 [(0, .ref 4), (1, .ref h1)] [.int r2] G2 _
    refine E_iconst (v := (-1)) dX5_faultOfTableName_27 (by decide) ?_
    refine E_icmp_ne (tgt := 39) dX5_faultOfTableName_28 (by decide) (fun c => ?_) (fun c => ?_)
    · have hB := hB.1 c
      refine E_iconst (v := 0) dX5_faultOfTableName_39 (by decide) ?_
      exact E_iret rfl dX5_faultOfTableName_40 ⟨_, rfl, hE2, hB⟩
    · have hB := hB.2 c
      refine E_aload_n 0 dX5_faultOfTableName_31 rfl rfl rfl ?_
      refine E_iconst (v := 2) dX5_faultOfTableName_32 (by decide) ?_
      refine E_cV (ci := 5) (as := [.int 2]) (st := []) cm_X5_faultHere cV_X5_61 ⟨_, _, rfl⟩ (by decide) (lo_4 hL2) rfl rfl (by decide) (Nat.le_of_ble_eq_true rfl) (Nat.le_of_ble_eq_true rfl) dX5_faultOfTableName_33 hB (fun r G3 hr => ?_)
      obtain ⟨r3, rfl, hE3, hB⟩ := hr
      have hL3 : Lay G3.2.2 := by rw [hE3]; exact hL2
      have hE3 : G3.2.2 = G.2.2 := hE3.trans hE2
      show Ev K mX5_faultOfTableName 2 36 [(0, .ref 4), (1, .ref h1)] [.int r3] G3 _
      refine E_goto (tgt := 40) dX5_faultOfTableName_36 (by decide) ?_
      exact E_iret rfl dX5_faultOfTableName_40 ⟨_, rfl, hE3, hB⟩
  · have hB := hB.2 c
    refine E_aload_n 0 dX5_faultOfTableName_10 rfl rfl rfl ?_
    refine E_iconst (v := 1) dX5_faultOfTableName_11 (by decide) ?_
    refine E_cV (ci := 5) (as := [.int 1]) (st := []) cm_X5_faultHere cV_X5_61 ⟨_, _, rfl⟩ (by decide) (lo_4 hL1) rfl rfl (by decide) (Nat.le_of_ble_eq_true rfl) (Nat.le_of_ble_eq_true rfl) dX5_faultOfTableName_12 hB (fun r G4 hr => ?_)
    obtain ⟨r4, rfl, hE4, hB⟩ := hr
    have hL4 : Lay G4.2.2 := by rw [hE4]; exact hL1
    have hE4 : G4.2.2 = G.2.2 := hE4.trans hE1
    show Ev K mX5_faultOfTableName 2 15 [(0, .ref 4), (1, .ref h1)] [.int r4] G4 _
    exact E_iret rfl dX5_faultOfTableName_15 ⟨_, rfl, hE4, hB⟩

set_option maxRecDepth 20000 in
set_option maxHeartbeats 2000000 in
theorem kX5_readCell_0 {K : KT} {G : St} {Q : Int32 → St → Prop} {h1 : Nat} {x2 : Int32} {x3 : Int32} (hL : Lay G.2.2) (hh1 : h1 = 39 ∨ h1 = 49)
    (hB : vp_in ((x2 * 4) + x3) 20 ∧ ((¬ (sI G (h1 + 4) (Int32.toNatClampNeg ((x2 * 4) + x3))) = (-1) → (((sI G (h1 + 4) (Int32.toNatClampNeg ((x2 * 4) + x3))) = (-2) → EvI K mX5_readCell 3 63 [(0, .ref 4), (1, .ref h1), (3, .int x3), (4, .int (sI G (h1 + 4) (Int32.toNatClampNeg ((x2 * 4) + x3)))), (5, .long (sL G 2 5))] [] G Q) ∧ (¬ (sI G (h1 + 4) (Int32.toNatClampNeg ((x2 * 4) + x3))) = (-2) → EvI K mX7_isWord 0 0 [(0, .ref 2), (1, .long 286880)] [] G (fun r2 G2 => ((¬ r2 = 0 → EvI K mX5_readCell 3 123 [(0, .ref 4), (1, .ref h1), (3, .int x3), (5, .long (-1))] [] G2 Q) ∧ (r2 = 0 → EvI K mX5_readCell 3 63 [(0, .ref 4), (1, .ref h1), (3, .int x3), (4, .int (sI G (h1 + 4) (Int32.toNatClampNeg ((x2 * 4) + x3)))), (5, .long (sL G 2 5))] [] G2 Q)))))) ∧ ((sI G (h1 + 4) (Int32.toNatClampNeg ((x2 * 4) + x3))) = (-1) → EvI K mX7_isName 1 0 [(0, .ref 2)] [] G (fun r3 G3 => ((¬ r3 = 0 → EvI K mX5_readCell 3 123 [(0, .ref 4), (1, .ref h1), (3, .int x3), (5, .long (sL G 2 5))] [] G3 Q) ∧ (r3 = 0 → EvI K mX5_faultHere 0 0 [(0, .ref 4), (1, .int 1)] [] G3 (fun r4 G4 => Q r4 G4))))))) :
    EvI K mX5_readCell 3 0 [(0, .ref 4), (1, .ref h1), (2, .int x2), (3, .int x3)] [] G Q := by
  refine E_aload_n 1 dX5_readCell_0 rfl rfl rfl ?_
  refine E_gR (j := h1 + 4) fG_X5_132 rfl (lhO hL hh1) (lhR3 hL hh1) (Nat.succ_pos _) dX5_readCell_1 ?_
  refine E_iload_n 2 dX5_readCell_4 rfl rfl ?_
  refine E_iconst (v := 4) dX5_readCell_5 (by decide) ?_
  refine E_imul dX5_readCell_6 ?_
  refine E_iload_n 3 dX5_readCell_7 rfl rfl ?_
  refine E_iadd dX5_readCell_8 ?_
  obtain ⟨qq1, hB⟩ := hB
  refine E_aI (p := Int32.toNatClampNeg ((x2 * 4) + x3)) (v := sI G (h1 + 4) (Int32.toNatClampNeg ((x2 * 4) + x3))) (lhA3 hL hh1) qq1 rfl rfl dX5_readCell_9 ?_
  refine E_istore (lv' := [(0, .ref 4), (1, .ref h1), (2, .int x2), (3, .int x3), (4, .int (sI G (h1 + 4) (Int32.toNatClampNeg ((x2 * 4) + x3))))]) dX5_readCell_10 (by decide) rfl ?_
  refine E_aload_n 0 dX5_readCell_12 rfl rfl rfl ?_
  refine E_gR (j := 2) fG_X5_9 rfl (lo_4 hL) (lr_4_0 hL) (by decide) dX5_readCell_13 ?_
  refine E_gL (v := sL G 2 5) fG_X5_75 rfl (lo_2 hL) rfl dX5_readCell_16 ?_
  refine E_lstore (lv' := [(0, .ref 4), (1, .ref h1), (2, .int x2), (3, .int x3), (4, .int (sI G (h1 + 4) (Int32.toNatClampNeg ((x2 * 4) + x3)))), (5, .long (sL G 2 5))]) dX5_readCell_19 (by decide) rfl ?_
  refine E_iload 4 dX5_readCell_21 rfl ?_
  refine E_iconst (v := (-1)) dX5_readCell_23 (by decide) ?_
  refine E_icmp_ne (tgt := 43) dX5_readCell_24 (by decide) (fun c => ?_) (fun c => ?_)
  · have hB := hB.1 c
    refine E_iload 4 dX5_readCell_43 rfl ?_
    refine E_bipush (v := (-2)) dX5_readCell_45 (by decide) ?_
    refine E_icmp_eq (tgt := 63) dX5_readCell_47 (by decide) (fun c => ?_) (fun c => ?_)
    · have hB := hB.1 c
      refine E_sub (lv' := [(0, .ref 4), (1, .ref h1), (3, .int x3), (4, .int (sI G (h1 + 4) (Int32.toNatClampNeg ((x2 * 4) + x3)))), (5, .long (sL G 2 5))]) [0, 1, 3, 4, 5] rfl ?_
      exact EvI.tr hB rfl
    · have hB := hB.2 c
      refine E_aload_n 0 dX5_readCell_50 rfl rfl rfl ?_
      refine E_gR (j := 2) fG_X5_9 rfl (lo_4 hL) (lr_4_0 hL) (by decide) dX5_readCell_51 ?_
      refine E_ldc2 (v := 286880) tm_598 dX5_readCell_54 ?_
      refine E_cV (ci := 7) (as := [.long 286880]) (st := []) cm_X7_isWord cV_X5_57 ⟨_, _, rfl⟩ (by decide) (lo_2 hL) rfl rfl (by decide) (Nat.le_of_ble_eq_true rfl) (Nat.le_of_ble_eq_true rfl) dX5_readCell_57 hB (fun r G2 hr => ?_)
      obtain ⟨r2, rfl, hE2, hB⟩ := hr
      have hL2 : Lay G2.2.2 := by rw [hE2]; exact hL
      have hE2 : G2.2.2 = G.2.2 := hE2
      show Ev K mX5_readCell 3 60 [(0, .ref 4), (1, .ref h1), (2, .int x2), (3, .int x3), (4, .int (sI G (h1 + 4) (Int32.toNatClampNeg ((x2 * 4) + x3)))), (5, .long (sL G 2 5))] [.int r2] G2 _
      refine E_if_ne (tgt := 118) dX5_readCell_60 (by decide) (fun c => ?_) (fun c => ?_)
      · have hB := hB.1 c
        refine E_ldc2 (v := (-1)) tm_603 dX5_readCell_118 ?_
        refine E_lstore (lv' := [(0, .ref 4), (1, .ref h1), (2, .int x2), (3, .int x3), (4, .int (sI G (h1 + 4) (Int32.toNatClampNeg ((x2 * 4) + x3)))), (5, .long (-1))]) dX5_readCell_121 (by decide) rfl ?_
        refine E_sub (lv' := [(0, .ref 4), (1, .ref h1), (3, .int x3), (5, .long (-1))]) [0, 1, 3, 5] rfl ?_
        exact EvI.tr hB hE2
      · have hB := hB.2 c
        refine E_sub (lv' := [(0, .ref 4), (1, .ref h1), (3, .int x3), (4, .int (sI G (h1 + 4) (Int32.toNatClampNeg ((x2 * 4) + x3)))), (5, .long (sL G 2 5))]) [0, 1, 3, 4, 5] rfl ?_
        exact EvI.tr hB hE2
  · have hB := hB.2 c
    refine E_aload_n 0 dX5_readCell_27 rfl rfl rfl ?_
    refine E_gR (j := 2) fG_X5_9 rfl (lo_4 hL) (lr_4_0 hL) (by decide) dX5_readCell_28 ?_
    refine E_cV (ci := 7) (as := []) (st := []) cm_X7_isName cV_X5_71 ⟨_, _, rfl⟩ (by decide) (lo_2 hL) rfl rfl (by decide) (Nat.le_of_ble_eq_true rfl) (Nat.le_of_ble_eq_true rfl) dX5_readCell_31 hB (fun r G3 hr => ?_)
    obtain ⟨r3, rfl, hE3, hB⟩ := hr
    have hL3 : Lay G3.2.2 := by rw [hE3]; exact hL
    have hE3 : G3.2.2 = G.2.2 := hE3
    show Ev K mX5_readCell 3 34 [(0, .ref 4), (1, .ref h1), (2, .int x2), (3, .int x3), (4, .int (sI G (h1 + 4) (Int32.toNatClampNeg ((x2 * 4) + x3)))), (5, .long (sL G 2 5))] [.int r3] G3 _
    refine E_if_ne (tgt := 123) dX5_readCell_34 (by decide) (fun c => ?_) (fun c => ?_)
    · have hB := hB.1 c
      refine E_sub (lv' := [(0, .ref 4), (1, .ref h1), (3, .int x3), (5, .long (sL G 2 5))]) [0, 1, 3, 5] rfl ?_
      exact EvI.tr hB hE3
    · have hB := hB.2 c
      refine E_aload_n 0 dX5_readCell_37 rfl rfl rfl ?_
      refine E_iconst (v := 1) dX5_readCell_38 (by decide) ?_
      refine E_cV (ci := 5) (as := [.int 1]) (st := []) cm_X5_faultHere cV_X5_61 ⟨_, _, rfl⟩ (by decide) (lo_4 hL3) rfl rfl (by decide) (Nat.le_of_ble_eq_true rfl) (Nat.le_of_ble_eq_true rfl) dX5_readCell_39 hB (fun r G4 hr => ?_)
      obtain ⟨r4, rfl, hE4, hB⟩ := hr
      have hL4 : Lay G4.2.2 := by rw [hE4]; exact hL3
      have hE4 : G4.2.2 = G.2.2 := hE4.trans hE3
      show Ev K mX5_readCell 3 42 [(0, .ref 4), (1, .ref h1), (2, .int x2), (3, .int x3), (4, .int (sI G (h1 + 4) (Int32.toNatClampNeg ((x2 * 4) + x3)))), (5, .long (sL G 2 5))] [.int r4] G4 _
      exact E_iret rfl dX5_readCell_42 ⟨_, rfl, hE4, hB⟩

set_option maxRecDepth 20000 in
set_option maxHeartbeats 2000000 in
theorem kX5_readCell_63 {K : KT} {G : St} {Q : Int32 → St → Prop} {h1 : Nat} {x3 : Int32} {x4 : Int32} {y5 : Int64} (hL : Lay G.2.2) (hh1 : h1 = 39 ∨ h1 = 49)
    (hB : (((sI G 2 3) = 2 → ((x4 = (-2) → EvI K mX5_readCell 3 123 [(0, .ref 4), (1, .ref h1), (3, .int x3), (5, .long y5)] [] G Q) ∧ (¬ x4 = (-2) → EvI K mX1_rowNumbered 0 0 [(0, .ref h1), (1, .int x4), (2, .long (sL G 2 5))] [] G (fun r1 G1 => ((¬ (Int32.toInt64 r1) = (-1) → EvI K mX5_readCell 3 123 [(0, .ref 4), (1, .ref h1), (3, .int x3), (5, .long (Int32.toInt64 r1))] [] G1 Q) ∧ ((Int32.toInt64 r1) = (-1) → EvI K mX5_faultHere 0 0 [(0, .ref 4), (1, .int 4)] [] G1 (fun r2 G2 => Q r2 G2))))))) ∧ (¬ (sI G 2 3) = 2 → EvI K mX5_faultHere 0 0 [(0, .ref 4), (1, .int 1)] [] G (fun r3 G3 => Q r3 G3)))) :
    EvI K mX5_readCell 3 63 [(0, .ref 4), (1, .ref h1), (3, .int x3), (4, .int x4), (5, .long y5)] [] G Q := by
  refine E_aload_n 0 dX5_readCell_63 rfl rfl rfl ?_
  refine E_gR (j := 2) fG_X5_9 rfl (lo_4 hL) (lr_4_0 hL) (by decide) dX5_readCell_64 ?_
  refine E_gI (v := sI G 2 3) fG_X5_25 rfl (lo_2 hL) rfl dX5_readCell_67 ?_
  refine E_iconst (v := 2) dX5_readCell_70 (by decide) ?_
  refine E_icmp_eq (tgt := 80) dX5_readCell_71 (by decide) (fun c => ?_) (fun c => ?_)
  · have hB := hB.1 c
    refine E_iload 3 dX5_readCell_80 rfl ?_
    refine E_bipush (v := (-2)) dX5_readCell_82 (by decide) ?_
    refine E_icmp_eq (tgt := 123) dX5_readCell_84 (by decide) (fun c => ?_) (fun c => ?_)
    · have hB := hB.1 c
      refine E_sub (lv' := [(0, .ref 4), (1, .ref h1), (3, .int x3), (5, .long y5)]) [0, 1, 2, 4] rfl ?_
      exact EvI.tr hB rfl
    · have hB := hB.2 c
      refine E_aload_n 1 dX5_readCell_87 rfl rfl rfl ?_
      refine E_iload 3 dX5_readCell_88 rfl ?_
      refine E_aload_n 0 dX5_readCell_90 rfl rfl rfl ?_
      refine E_gR (j := 2) fG_X5_9 rfl (lo_4 hL) (lr_4_0 hL) (by decide) dX5_readCell_91 ?_
      refine E_gL (v := sL G 2 5) fG_X5_75 rfl (lo_2 hL) rfl dX5_readCell_94 ?_
      refine E_cV (ci := 1) (as := [.int x4, .long (sL G 2 5)]) (st := []) cm_X1_rowNumbered cV_X5_137 ⟨_, _, rfl⟩ (by decide) (lhO hL hh1) rfl rfl (by decide) (Nat.le_of_ble_eq_true rfl) (Nat.le_of_ble_eq_true rfl) dX5_readCell_97 hB (fun r G1 hr => ?_)
      obtain ⟨r1, rfl, hE1, hB⟩ := hr
      have hL1 : Lay G1.2.2 := by rw [hE1]; exact hL
      have hE1 : G1.2.2 = G.2.2 := hE1
      show Ev K mX5_readCell 3 100 [(0, .ref 4), (1, .ref h1), (3, .int x3), (4, .int x4), (5, .long y5)] [.int r1] G1 _
      refine E_i2l dX5_readCell_100 rfl ?_
      refine E_lstore (lv' := [(0, .ref 4), (1, .ref h1), (3, .int x3), (4, .int x4), (5, .long (Int32.toInt64 r1))]) dX5_readCell_101 (by decide) rfl ?_
      refine E_lload 4 dX5_readCell_103 rfl ?_
      refine E_ldc2 (v := (-1)) tm_603 dX5_readCell_105 ?_
      refine E_lcmp dX5_readCell_108 ?_
      refine E_if_ne (tgt := 123) dX5_readCell_109 (by decide) (fun c => ?_) (fun c => ?_)
      · have hB := hB.1 ((fun q => c ((lgc_eq (Int32.toInt64 r1) (-1)).mpr q)))
        refine E_sub (lv' := [(0, .ref 4), (1, .ref h1), (3, .int x3), (5, .long (Int32.toInt64 r1))]) [0, 1, 2, 4] rfl ?_
        exact EvI.tr hB hE1
      · have hB := hB.2 ((lgc_eq (Int32.toInt64 r1) (-1)).mp c)
        refine E_aload_n 0 dX5_readCell_112 rfl rfl rfl ?_
        refine E_iconst (v := 4) dX5_readCell_113 (by decide) ?_
        refine E_cV (ci := 5) (as := [.int 4]) (st := []) cm_X5_faultHere cV_X5_61 ⟨_, _, rfl⟩ (by decide) (lo_4 hL1) rfl rfl (by decide) (Nat.le_of_ble_eq_true rfl) (Nat.le_of_ble_eq_true rfl) dX5_readCell_114 hB (fun r G2 hr => ?_)
        obtain ⟨r2, rfl, hE2, hB⟩ := hr
        have hL2 : Lay G2.2.2 := by rw [hE2]; exact hL1
        have hE2 : G2.2.2 = G.2.2 := hE2.trans hE1
        show Ev K mX5_readCell 3 117 [(0, .ref 4), (1, .ref h1), (3, .int x3), (4, .int x4), (5, .long (Int32.toInt64 r1))] [.int r2] G2 _
        exact E_iret rfl dX5_readCell_117 ⟨_, rfl, hE2, hB⟩
  · have hB := hB.2 c
    refine E_aload_n 0 dX5_readCell_74 rfl rfl rfl ?_
    refine E_iconst (v := 1) dX5_readCell_75 (by decide) ?_
    refine E_cV (ci := 5) (as := [.int 1]) (st := []) cm_X5_faultHere cV_X5_61 ⟨_, _, rfl⟩ (by decide) (lo_4 hL) rfl rfl (by decide) (Nat.le_of_ble_eq_true rfl) (Nat.le_of_ble_eq_true rfl) dX5_readCell_76 hB (fun r G3 hr => ?_)
    obtain ⟨r3, rfl, hE3, hB⟩ := hr
    have hL3 : Lay G3.2.2 := by rw [hE3]; exact hL
    have hE3 : G3.2.2 = G.2.2 := hE3
    show Ev K mX5_readCell 3 79 [(0, .ref 4), (1, .ref h1), (3, .int x3), (4, .int x4), (5, .long y5)] [.int r3] G3 _
    exact E_iret rfl dX5_readCell_79 ⟨_, rfl, hE3, hB⟩

set_option maxRecDepth 20000 in
set_option maxHeartbeats 2000000 in
theorem kX5_readCell_123 {K : KT} {G : St} {Q : Int32 → St → Prop} {h1 : Nat} {x3 : Int32} {y5 : Int64} (hL : Lay G.2.2) (hh1 : h1 = 39 ∨ h1 = 49)
    (hB : EvV K mX1_putCell 0 0 [(0, .ref h1), (1, .int x3), (2, .long y5)] [] G (fun G1 => EvV K mX7_advance 2 0 [(0, .ref 2)] [] G1 (fun G2 => Q 0 G2))) :
    EvI K mX5_readCell 3 123 [(0, .ref 4), (1, .ref h1), (3, .int x3), (5, .long y5)] [] G Q := by
  refine E_aload_n 1 dX5_readCell_123 rfl rfl rfl ?_
  refine E_iload_n 2 dX5_readCell_124 rfl rfl ?_
  refine E_lload 3 dX5_readCell_125 rfl ?_
  refine E_cV (ci := 1) (as := [.int x3, .long y5]) (st := []) cm_X1_putCell cV_X5_143 ⟨_, _, rfl⟩ (by decide) (lhO hL hh1) rfl rfl (by decide) (Nat.le_of_ble_eq_true rfl) (Nat.le_of_ble_eq_true rfl) dX5_readCell_127 hB (fun r G1 hr => ?_)
  obtain ⟨rfl, hE1, hB⟩ := hr
  have hL1 : Lay G1.2.2 := by rw [hE1]; exact hL
  have hE1 : G1.2.2 = G.2.2 := hE1
  show Ev K mX5_readCell 3 130 [(0, .ref 4), (1, .ref h1), (3, .int x3), (5, .long y5)] [] G1 _
  refine E_aload_n 0 dX5_readCell_130 rfl rfl rfl ?_
  refine E_gR (j := 2) fG_X5_9 rfl (lo_4 hL1) (lr_4_0 hL1) (by decide) dX5_readCell_131 ?_
  refine E_cV (ci := 7) (as := []) (st := []) cm_X7_advance cV_X5_68 ⟨_, _, rfl⟩ (by decide) (lo_2 hL1) rfl rfl (by decide) (Nat.le_of_ble_eq_true rfl) (Nat.le_of_ble_eq_true rfl) dX5_readCell_134 hB (fun r G2 hr => ?_)
  obtain ⟨rfl, hE2, hB⟩ := hr
  have hL2 : Lay G2.2.2 := by rw [hE2]; exact hL1
  have hE2 : G2.2.2 = G.2.2 := hE2.trans hE1
  show Ev K mX5_readCell 3 137 [(0, .ref 4), (1, .ref h1), (3, .int x3), (5, .long y5)] [] G2 _
  refine E_iconst (v := 0) dX5_readCell_137 (by decide) ?_
  exact E_iret rfl dX5_readCell_138 ⟨_, rfl, hE2, hB⟩

set_option maxRecDepth 20000 in
set_option maxHeartbeats 2000000 in
theorem kX5_readRow_0 {K : KT} {G : St} {Q : Int32 → St → Prop} {h1 : Nat} (hL : Lay G.2.2) (hh1 : h1 = 39 ∨ h1 = 49)
    (hB : EvI K mX5_faultOfTableName 2 0 [(0, .ref 4), (1, .ref h1)] [] G (fun r1 G1 => ((r1 = 0 → (((sI G1 h1 10) < 30 → EvI K mX1_tableNamed 0 0 [(0, .ref h1), (1, .long (sL G1 2 5))] [] G1 (fun r2 G2 => EvV K mX7_advance 2 0 [(0, .ref 2)] [] G2 (fun G3 => EvI K mX5_readRow 4 49 [(0, .ref 4), (1, .ref h1), (2, .int r1), (3, .int r2), (4, .int 0)] [] G3 Q))) ∧ (¬ (sI G1 h1 10) < 30 → EvI K mX5_faultHere 0 0 [(0, .ref 4), (1, .int 5)] [] G1 (fun r4 G4 => Q r4 G4)))) ∧ (¬ r1 = 0 → Q r1 G1)))) :
    EvI K mX5_readRow 4 0 [(0, .ref 4), (1, .ref h1)] [] G Q := by
  refine E_aload_n 0 dX5_readRow_0 rfl rfl rfl ?_
  refine E_aload_n 1 dX5_readRow_1 rfl rfl rfl ?_
  refine E_cV (ci := 5) (as := [.ref h1]) (st := []) cm_X5_faultOfTableName cV_X5_118 ⟨_, _, rfl⟩ (by decide) (lo_4 hL) rfl rfl (by decide) (Nat.le_of_ble_eq_true rfl) (Nat.le_of_ble_eq_true rfl) dX5_readRow_2 hB (fun r G1 hr => ?_)
  obtain ⟨r1, rfl, hE1, hB⟩ := hr
  have hL1 : Lay G1.2.2 := by rw [hE1]; exact hL
  have hE1 : G1.2.2 = G.2.2 := hE1
  show Ev K mX5_readRow 4 5 [(0, .ref 4), (1, .ref h1)] [.int r1] G1 _
  refine E_istore_n (lv' := [(0, .ref 4), (1, .ref h1), (2, .int r1)]) dX5_readRow_5 rfl (by decide) rfl ?_
  refine E_iload_n 2 dX5_readRow_6 rfl rfl ?_
  refine E_if_eq (tgt := 12) dX5_readRow_7 (by decide) (fun c => ?_) (fun c => ?_)
  · have hB := hB.1 c
    refine E_aload_n 1 dX5_readRow_12 rfl rfl rfl ?_
    refine E_gI (v := sI G1 h1 10) fG_X5_121 rfl (lhO hL1 hh1) rfl dX5_readRow_13 ?_
    refine E_bipush (v := 30) dX5_readRow_16 (by decide) ?_
    refine E_icmp_lt (tgt := 27) dX5_readRow_18 (by decide) (fun c => ?_) (fun c => ?_)
    · have hB := hB.1 c
      refine E_aload_n 1 dX5_readRow_27 rfl rfl rfl ?_
      refine E_aload_n 0 dX5_readRow_28 rfl rfl rfl ?_
      refine E_gR (j := 2) fG_X5_9 rfl (lo_4 hL1) (lr_4_0 hL1) (by decide) dX5_readRow_29 ?_
      refine E_gL (v := sL G1 2 5) fG_X5_75 rfl (lo_2 hL1) rfl dX5_readRow_32 ?_
      refine E_cV (ci := 1) (as := [.long (sL G1 2 5)]) (st := []) cm_X1_tableNamed cV_X5_79 ⟨_, _, rfl⟩ (by decide) (lhO hL1 hh1) rfl rfl (by decide) (Nat.le_of_ble_eq_true rfl) (Nat.le_of_ble_eq_true rfl) dX5_readRow_35 hB (fun r G2 hr => ?_)
      obtain ⟨r2, rfl, hE2, hB⟩ := hr
      have hL2 : Lay G2.2.2 := by rw [hE2]; exact hL1
      have hE2 : G2.2.2 = G.2.2 := hE2.trans hE1
      show Ev K mX5_readRow 4 38 [(0, .ref 4), (1, .ref h1), (2, .int r1)] [.int r2] G2 _
      refine E_istore_n (lv' := [(0, .ref 4), (1, .ref h1), (2, .int r1), (3, .int r2)]) dX5_readRow_38 rfl (by decide) rfl ?_
      refine E_aload_n 0 dX5_readRow_39 rfl rfl rfl ?_
      refine E_gR (j := 2) fG_X5_9 rfl (lo_4 hL2) (lr_4_0 hL2) (by decide) dX5_readRow_40 ?_
      refine E_cV (ci := 7) (as := []) (st := []) cm_X7_advance cV_X5_68 ⟨_, _, rfl⟩ (by decide) (lo_2 hL2) rfl rfl (by decide) (Nat.le_of_ble_eq_true rfl) (Nat.le_of_ble_eq_true rfl) dX5_readRow_43 hB (fun r G3 hr => ?_)
      obtain ⟨rfl, hE3, hB⟩ := hr
      have hL3 : Lay G3.2.2 := by rw [hE3]; exact hL2
      have hE3 : G3.2.2 = G.2.2 := hE3.trans hE2
      show Ev K mX5_readRow 4 46 [(0, .ref 4), (1, .ref h1), (2, .int r1), (3, .int r2)] [] G3 _
      refine E_iconst (v := 0) dX5_readRow_46 (by decide) ?_
      refine E_istore (lv' := [(0, .ref 4), (1, .ref h1), (2, .int r1), (3, .int r2), (4, .int 0)]) dX5_readRow_47 (by decide) rfl ?_
      exact EvI.tr hB hE3
    · have hB := hB.2 c
      refine E_aload_n 0 dX5_readRow_21 rfl rfl rfl ?_
      refine E_iconst (v := 5) dX5_readRow_22 (by decide) ?_
      refine E_cV (ci := 5) (as := [.int 5]) (st := []) cm_X5_faultHere cV_X5_61 ⟨_, _, rfl⟩ (by decide) (lo_4 hL1) rfl rfl (by decide) (Nat.le_of_ble_eq_true rfl) (Nat.le_of_ble_eq_true rfl) dX5_readRow_23 hB (fun r G4 hr => ?_)
      obtain ⟨r4, rfl, hE4, hB⟩ := hr
      have hL4 : Lay G4.2.2 := by rw [hE4]; exact hL1
      have hE4 : G4.2.2 = G.2.2 := hE4.trans hE1
      show Ev K mX5_readRow 4 26 [(0, .ref 4), (1, .ref h1), (2, .int r1)] [.int r4] G4 _
      exact E_iret rfl dX5_readRow_26 ⟨_, rfl, hE4, hB⟩
  · have hB := hB.2 c
    refine E_iload_n 2 dX5_readRow_10 rfl rfl ?_
    exact E_iret rfl dX5_readRow_11 ⟨_, rfl, hE1, hB⟩

set_option maxRecDepth 20000 in
set_option maxHeartbeats 2000000 in
theorem kX5_readRow_49 {K : KT} {G : St} {Q : Int32 → St → Prop} {h1 : Nat} {x2 : Int32} {x3 : Int32} {x4 : Int32} (hL : Lay G.2.2) (hh1 : h1 = 39 ∨ h1 = 49)
    (hB : vp_in x3 5 ∧ (((sI G (h1 + 2) (Int32.toNatClampNeg x3)) ≤ x4 → EvI K mX5_readRow 4 79 [(0, .ref 4), (1, .ref h1), (2, .int x2), (3, .int x3)] [] G Q) ∧ (¬ (sI G (h1 + 2) (Int32.toNatClampNeg x3)) ≤ x4 → ((¬ x2 = 0 → EvI K mX5_readRow 4 79 [(0, .ref 4), (1, .ref h1), (2, .int x2), (3, .int x3)] [] G Q) ∧ (x2 = 0 → EvI K mX5_readCell 3 0 [(0, .ref 4), (1, .ref h1), (2, .int x3), (3, .int x4)] [] G (fun r2 G2 => EvI K mX5_readRow 4 49 [(0, .ref 4), (1, .ref h1), (2, .int r2), (3, .int x3), (4, .int (x4 + 1))] [] G2 Q)))))) :
    EvI K mX5_readRow 4 49 [(0, .ref 4), (1, .ref h1), (2, .int x2), (3, .int x3), (4, .int x4)] [] G Q := by
  refine E_iload 4 dX5_readRow_49 rfl ?_
  refine E_aload_n 1 dX5_readRow_51 rfl rfl rfl ?_
  refine E_gR (j := h1 + 2) fG_X5_106 rfl (lhO hL hh1) (lhR1 hL hh1) (Nat.succ_pos _) dX5_readRow_52 ?_
  refine E_iload_n 3 dX5_readRow_55 rfl rfl ?_
  obtain ⟨qq1, hB⟩ := hB
  refine E_aI (p := Int32.toNatClampNeg x3) (v := sI G (h1 + 2) (Int32.toNatClampNeg x3)) (lhA1 hL hh1) qq1 rfl rfl dX5_readRow_56 ?_
  refine E_icmp_ge (tgt := 79) dX5_readRow_57 (by decide) (fun c => ?_) (fun c => ?_)
  · have hB := hB.1 c
    refine E_sub (lv' := [(0, .ref 4), (1, .ref h1), (2, .int x2), (3, .int x3)]) [0, 1, 2, 3] rfl ?_
    exact EvI.tr hB rfl
  · have hB := hB.2 c
    refine E_iload_n 2 dX5_readRow_60 rfl rfl ?_
    refine E_if_ne (tgt := 79) dX5_readRow_61 (by decide) (fun c => ?_) (fun c => ?_)
    · have hB := hB.1 c
      refine E_sub (lv' := [(0, .ref 4), (1, .ref h1), (2, .int x2), (3, .int x3)]) [0, 1, 2, 3] rfl ?_
      exact EvI.tr hB rfl
    · have hB := hB.2 c
      refine E_aload_n 0 dX5_readRow_64 rfl rfl rfl ?_
      refine E_aload_n 1 dX5_readRow_65 rfl rfl rfl ?_
      refine E_iload_n 3 dX5_readRow_66 rfl rfl ?_
      refine E_iload 4 dX5_readRow_67 rfl ?_
      refine E_cV (ci := 5) (as := [.ref h1, .int x3, .int x4]) (st := []) cm_X5_readCell cV_X5_124 ⟨_, _, rfl⟩ (by decide) (lo_4 hL) rfl rfl (by decide) (Nat.le_of_ble_eq_true rfl) (Nat.le_of_ble_eq_true rfl) dX5_readRow_69 hB (fun r G2 hr => ?_)
      obtain ⟨r2, rfl, hE2, hB⟩ := hr
      have hL2 : Lay G2.2.2 := by rw [hE2]; exact hL
      have hE2 : G2.2.2 = G.2.2 := hE2
      show Ev K mX5_readRow 4 72 [(0, .ref 4), (1, .ref h1), (2, .int x2), (3, .int x3), (4, .int x4)] [.int r2] G2 _
      refine E_istore_n (lv' := [(0, .ref 4), (1, .ref h1), (2, .int r2), (3, .int x3), (4, .int x4)]) dX5_readRow_72 rfl (by decide) rfl ?_
      refine E_iinc (v := x4 + 1) (lv' := [(0, .ref 4), (1, .ref h1), (2, .int r2), (3, .int x3), (4, .int (x4 + 1))]) 4 dX5_readRow_73 rfl rfl (by decide) rfl ?_
      refine E_goto (tgt := 49) dX5_readRow_76 (by decide) ?_
      exact EvI.tr hB hE2

set_option maxRecDepth 20000 in
set_option maxHeartbeats 2000000 in
theorem kX5_readRow_79 {K : KT} {G : St} {Q : Int32 → St → Prop} {h1 : Nat} {x2 : Int32} {x3 : Int32} (hL : Lay G.2.2) (hh1 : h1 = 39 ∨ h1 = 49)
    (hB : ((¬ x2 = 0 → EvI K mX5_readRow 4 90 [(1, .ref h1), (2, .int x2), (3, .int x3)] [] G Q) ∧ (x2 = 0 → EvI K mX5_passSign 3 0 [(0, .ref 4), (1, .int 59)] [] G (fun r1 G1 => EvI K mX5_readRow 4 90 [(1, .ref h1), (2, .int r1), (3, .int x3)] [] G1 Q)))) :
    EvI K mX5_readRow 4 79 [(0, .ref 4), (1, .ref h1), (2, .int x2), (3, .int x3)] [] G Q := by
  refine E_iload_n 2 dX5_readRow_79 rfl rfl ?_
  refine E_if_ne (tgt := 90) dX5_readRow_80 (by decide) (fun c => ?_) (fun c => ?_)
  · have hB := hB.1 c
    refine E_sub (lv' := [(1, .ref h1), (2, .int x2), (3, .int x3)]) [1, 2, 3] rfl ?_
    exact EvI.tr hB rfl
  · have hB := hB.2 c
    refine E_aload_n 0 dX5_readRow_83 rfl rfl rfl ?_
    refine E_bipush (v := 59) dX5_readRow_84 (by decide) ?_
    refine E_cV (ci := 5) (as := [.int 59]) (st := []) cm_X5_passSign cV_X5_98 ⟨_, _, rfl⟩ (by decide) (lo_4 hL) rfl rfl (by decide) (Nat.le_of_ble_eq_true rfl) (Nat.le_of_ble_eq_true rfl) dX5_readRow_86 hB (fun r G1 hr => ?_)
    obtain ⟨r1, rfl, hE1, hB⟩ := hr
    have hL1 : Lay G1.2.2 := by rw [hE1]; exact hL
    have hE1 : G1.2.2 = G.2.2 := hE1
    show Ev K mX5_readRow 4 89 [(0, .ref 4), (1, .ref h1), (2, .int x2), (3, .int x3)] [.int r1] G1 _
    refine E_istore_n (lv' := [(0, .ref 4), (1, .ref h1), (2, .int r1), (3, .int x3)]) dX5_readRow_89 rfl (by decide) rfl ?_
    refine E_sub (lv' := [(1, .ref h1), (2, .int r1), (3, .int x3)]) [1, 2, 3] rfl ?_
    exact EvI.tr hB hE1

set_option maxRecDepth 20000 in
set_option maxHeartbeats 2000000 in
theorem kX5_readRow_90 {K : KT} {G : St} {Q : Int32 → St → Prop} {h1 : Nat} {x2 : Int32} {x3 : Int32} (hL : Lay G.2.2) (hh1 : h1 = 39 ∨ h1 = 49)
    (hB : ((¬ x2 = 0 → Q x2 G) ∧ (x2 = 0 → EvV K mX1_addRow 0 0 [(0, .ref h1), (1, .int x3)] [] G (fun G1 => Q x2 G1)))) :
    EvI K mX5_readRow 4 90 [(1, .ref h1), (2, .int x2), (3, .int x3)] [] G Q := by
  refine E_iload_n 1 dX5_readRow_90 rfl rfl ?_
  refine E_if_ne (tgt := 99) dX5_readRow_91 (by decide) (fun c => ?_) (fun c => ?_)
  · have hB := hB.1 c
    refine E_iload_n 1 dX5_readRow_99 rfl rfl ?_
    exact E_iret rfl dX5_readRow_100 ⟨_, rfl, rfl, hB⟩
  · have hB := hB.2 c
    refine E_aload_n 0 dX5_readRow_94 rfl rfl rfl ?_
    refine E_iload_n 2 dX5_readRow_95 rfl rfl ?_
    refine E_cV (ci := 1) (as := [.int x3]) (st := []) cm_X1_addRow cV_X5_128 ⟨_, _, rfl⟩ (by decide) (lhO hL hh1) rfl rfl (by decide) (Nat.le_of_ble_eq_true rfl) (Nat.le_of_ble_eq_true rfl) dX5_readRow_96 hB (fun r G1 hr => ?_)
    obtain ⟨rfl, hE1, hB⟩ := hr
    have hL1 : Lay G1.2.2 := by rw [hE1]; exact hL
    have hE1 : G1.2.2 = G.2.2 := hE1
    show Ev K mX5_readRow 4 99 [(1, .ref h1), (2, .int x2), (3, .int x3)] [] G1 _
    refine E_iload_n 1 dX5_readRow_99 rfl rfl ?_
    exact E_iret rfl dX5_readRow_100 ⟨_, rfl, hE1, hB⟩

set_option maxRecDepth 20000 in
set_option maxHeartbeats 2000000 in
theorem kX5_readRows_0 {K : KT} {G : St} {Q : Int32 → St → Prop} {h1 : Nat} (hL : Lay G.2.2) (hh1 : h1 = 39 ∨ h1 = 49)
    (hB : EvV K mX7_rewind 3 0 [(0, .ref 2)] [] G (fun G1 => EvI K mX5_readRows 5 11 [(0, .ref 4), (1, .ref h1), (2, .int 0), (3, .int 0)] [] G1 Q)) :
    EvI K mX5_readRows 5 0 [(0, .ref 4), (1, .ref h1)] [] G Q := by
  refine E_aload_n 0 dX5_readRows_0 rfl rfl rfl ?_
  refine E_gR (j := 2) fG_X5_9 rfl (lo_4 hL) (lr_4_0 hL) (by decide) dX5_readRows_1 ?_
  refine E_cV (ci := 7) (as := []) (st := []) cm_X7_rewind cV_X5_20 ⟨_, _, rfl⟩ (by decide) (lo_2 hL) rfl rfl (by decide) (Nat.le_of_ble_eq_true rfl) (Nat.le_of_ble_eq_true rfl) dX5_readRows_4 hB (fun r G1 hr => ?_)
  obtain ⟨rfl, hE1, hB⟩ := hr
  have hL1 : Lay G1.2.2 := by rw [hE1]; exact hL
  have hE1 : G1.2.2 = G.2.2 := hE1
  show Ev K mX5_readRows 5 7 [(0, .ref 4), (1, .ref h1)] [] G1 _
  refine E_iconst (v := 0) dX5_readRows_7 (by decide) ?_
  refine E_istore_n (lv' := [(0, .ref 4), (1, .ref h1), (2, .int 0)]) dX5_readRows_8 rfl (by decide) rfl ?_
  refine E_iconst (v := 0) dX5_readRows_9 (by decide) ?_
  refine E_istore_n (lv' := [(0, .ref 4), (1, .ref h1), (2, .int 0), (3, .int 0)]) dX5_readRows_10 rfl (by decide) rfl ?_
  exact EvI.tr hB hE1

set_option maxRecDepth 20000 in
set_option maxHeartbeats 2000000 in
theorem kX5_readRows_11 {K : KT} {G : St} {Q : Int32 → St → Prop} {h1 : Nat} {x2 : Int32} {x3 : Int32} (hL : Lay G.2.2) (hh1 : h1 = 39 ∨ h1 = 49)
    (hB : ((30 < x3 → Q x2 G) ∧ (¬ 30 < x3 → ((¬ x2 = 0 → Q x2 G) ∧ (x2 = 0 → (((sI G 2 3) = 0 → Q x2 G) ∧ (¬ (sI G 2 3) = 0 → EvI K mX5_readRow 4 0 [(0, .ref 4), (1, .ref h1)] [] G (fun r1 G1 => EvI K mX5_readRows 5 11 [(0, .ref 4), (1, .ref h1), (2, .int r1), (3, .int (x3 + 1))] [] G1 Q)))))))) :
    EvI K mX5_readRows 5 11 [(0, .ref 4), (1, .ref h1), (2, .int x2), (3, .int x3)] [] G Q := by
  refine E_iload_n 3 dX5_readRows_11 rfl rfl ?_
  refine E_bipush (v := 30) dX5_readRows_12 (by decide) ?_
  refine E_icmp_gt (tgt := 43) dX5_readRows_14 (by decide) (fun c => ?_) (fun c => ?_)
  · have hB := hB.1 c
    refine E_iload_n 2 dX5_readRows_43 rfl rfl ?_
    exact E_iret rfl dX5_readRows_44 ⟨_, rfl, rfl, hB⟩
  · have hB := hB.2 c
    refine E_iload_n 2 dX5_readRows_17 rfl rfl ?_
    refine E_if_ne (tgt := 43) dX5_readRows_18 (by decide) (fun c => ?_) (fun c => ?_)
    · have hB := hB.1 c
      refine E_iload_n 2 dX5_readRows_43 rfl rfl ?_
      exact E_iret rfl dX5_readRows_44 ⟨_, rfl, rfl, hB⟩
    · have hB := hB.2 c
      refine E_aload_n 0 dX5_readRows_21 rfl rfl rfl ?_
      refine E_gR (j := 2) fG_X5_9 rfl (lo_4 hL) (lr_4_0 hL) (by decide) dX5_readRows_22 ?_
      refine E_gI (v := sI G 2 3) fG_X5_25 rfl (lo_2 hL) rfl dX5_readRows_25 ?_
      refine E_if_eq (tgt := 43) dX5_readRows_28 (by decide) (fun c => ?_) (fun c => ?_)
      · have hB := hB.1 c
        refine E_iload_n 2 dX5_readRows_43 rfl rfl ?_
        exact E_iret rfl dX5_readRows_44 ⟨_, rfl, rfl, hB⟩
      · have hB := hB.2 c
        refine E_aload_n 0 dX5_readRows_31 rfl rfl rfl ?_
        refine E_aload_n 1 dX5_readRows_32 rfl rfl rfl ?_
        refine E_cV (ci := 5) (as := [.ref h1]) (st := []) cm_X5_readRow cV_X5_33 ⟨_, _, rfl⟩ (by decide) (lo_4 hL) rfl rfl (by decide) (Nat.le_of_ble_eq_true rfl) (Nat.le_of_ble_eq_true rfl) dX5_readRows_33 hB (fun r G1 hr => ?_)
        obtain ⟨r1, rfl, hE1, hB⟩ := hr
        have hL1 : Lay G1.2.2 := by rw [hE1]; exact hL
        have hE1 : G1.2.2 = G.2.2 := hE1
        show Ev K mX5_readRows 5 36 [(0, .ref 4), (1, .ref h1), (2, .int x2), (3, .int x3)] [.int r1] G1 _
        refine E_istore_n (lv' := [(0, .ref 4), (1, .ref h1), (2, .int r1), (3, .int x3)]) dX5_readRows_36 rfl (by decide) rfl ?_
        refine E_iinc (v := x3 + 1) (lv' := [(0, .ref 4), (1, .ref h1), (2, .int r1), (3, .int (x3 + 1))]) 3 dX5_readRows_37 rfl rfl (by decide) rfl ?_
        refine E_goto (tgt := 11) dX5_readRows_40 (by decide) ?_
        exact EvI.tr hB hE1

set_option maxRecDepth 20000 in
set_option maxHeartbeats 2000000 in
theorem kX5_kindOfTerm_0 {K : KT} {G : St} {Q : Int32 → St → Prop}  (hL : Lay G.2.2) 
    (hB : EvI K mX7_isWord 0 0 [(0, .ref 2), (1, .long 279252)] [] G (fun r1 G1 => ((r1 = 0 → EvI K mX7_isWord 0 0 [(0, .ref 2), (1, .long 311436)] [] G1 (fun r2 G2 => ((r2 = 0 → EvI K mX7_isWord 0 0 [(0, .ref 2), (1, .long 11438892)] [] G2 (fun r3 G3 => ((r3 = 0 → EvI K mX7_isName 1 0 [(0, .ref 2)] [] G3 (fun r4 G4 => ((r4 = 0 → Q (-1) G4) ∧ (¬ r4 = 0 → Q 0 G4)))) ∧ (¬ r3 = 0 → Q 3 G3)))) ∧ (¬ r2 = 0 → Q 2 G2)))) ∧ (¬ r1 = 0 → Q 1 G1)))) :
    EvI K mX5_kindOfTerm 2 0 [(0, .ref 4)] [] G Q := by
  refine E_aload_n 0 dX5_kindOfTerm_0 rfl rfl rfl ?_
  refine E_gR (j := 2) fG_X5_9 rfl (lo_4 hL) (lr_4_0 hL) (by decide) dX5_kindOfTerm_1 ?_
  refine E_ldc2 (v := 279252) tm_633 dX5_kindOfTerm_4 ?_
  refine E_cV (ci := 7) (as := [.long 279252]) (st := []) cm_X7_isWord cV_X5_57 ⟨_, _, rfl⟩ (by decide) (lo_2 hL) rfl rfl (by decide) (Nat.le_of_ble_eq_true rfl) (Nat.le_of_ble_eq_true rfl) dX5_kindOfTerm_7 hB (fun r G1 hr => ?_)
  obtain ⟨r1, rfl, hE1, hB⟩ := hr
  have hL1 : Lay G1.2.2 := by rw [hE1]; exact hL
  have hE1 : G1.2.2 = G.2.2 := hE1
  show Ev K mX5_kindOfTerm 2 10 [(0, .ref 4)] [.int r1] G1 _
  refine E_if_eq (tgt := 15) dX5_kindOfTerm_10 (by decide) (fun c => ?_) (fun c => ?_)
  · have hB := hB.1 c
    refine E_aload_n 0 dX5_kindOfTerm_15 rfl rfl rfl ?_
    refine E_gR (j := 2) fG_X5_9 rfl (lo_4 hL1) (lr_4_0 hL1) (by decide) dX5_kindOfTerm_16 ?_
    refine E_ldc2 (v := 311436) tm_634 dX5_kindOfTerm_19 ?_
    refine E_cV (ci := 7) (as := [.long 311436]) (st := []) cm_X7_isWord cV_X5_57 ⟨_, _, rfl⟩ (by decide) (lo_2 hL1) rfl rfl (by decide) (Nat.le_of_ble_eq_true rfl) (Nat.le_of_ble_eq_true rfl) dX5_kindOfTerm_22 hB (fun r G2 hr => ?_)
    obtain ⟨r2, rfl, hE2, hB⟩ := hr
    have hL2 : Lay G2.2.2 := by rw [hE2]; exact hL1
    have hE2 : G2.2.2 = G.2.2 := hE2.trans hE1
    show Ev K mX5_kindOfTerm 2 25 [(0, .ref 4)] [.int r2] G2 _
    refine E_if_eq (tgt := 30) dX5_kindOfTerm_25 (by decide) (fun c => ?_) (fun c => ?_)
    · have hB := hB.1 c
      refine E_aload_n 0 dX5_kindOfTerm_30 rfl rfl rfl ?_
      refine E_gR (j := 2) fG_X5_9 rfl (lo_4 hL2) (lr_4_0 hL2) (by decide) dX5_kindOfTerm_31 ?_
      refine E_ldc2 (v := 11438892) tm_635 dX5_kindOfTerm_34 ?_
      refine E_cV (ci := 7) (as := [.long 11438892]) (st := []) cm_X7_isWord cV_X5_57 ⟨_, _, rfl⟩ (by decide) (lo_2 hL2) rfl rfl (by decide) (Nat.le_of_ble_eq_true rfl) (Nat.le_of_ble_eq_true rfl) dX5_kindOfTerm_37 hB (fun r G3 hr => ?_)
      obtain ⟨r3, rfl, hE3, hB⟩ := hr
      have hL3 : Lay G3.2.2 := by rw [hE3]; exact hL2
      have hE3 : G3.2.2 = G.2.2 := hE3.trans hE2
      show Ev K mX5_kindOfTerm 2 40 [(0, .ref 4)] [.int r3] G3 _
      refine E_if_eq (tgt := 45) dX5_kindOfTerm_40 (by decide) (fun c => ?_) (fun c => ?_)
      · have hB := hB.1 c
        refine E_aload_n 0 dX5_kindOfTerm_45 rfl rfl rfl ?_
        refine E_gR (j := 2) fG_X5_9 rfl (lo_4 hL3) (lr_4_0 hL3) (by decide) dX5_kindOfTerm_46 ?_
        refine E_cV (ci := 7) (as := []) (st := []) cm_X7_isName cV_X5_71 ⟨_, _, rfl⟩ (by decide) (lo_2 hL3) rfl rfl (by decide) (Nat.le_of_ble_eq_true rfl) (Nat.le_of_ble_eq_true rfl) dX5_kindOfTerm_49 hB (fun r G4 hr => ?_)
        obtain ⟨r4, rfl, hE4, hB⟩ := hr
        have hL4 : Lay G4.2.2 := by rw [hE4]; exact hL3
        have hE4 : G4.2.2 = G.2.2 := hE4.trans hE3
        show Ev K mX5_kindOfTerm 2 52 [(0, .ref 4)] [.int r4] G4 _
        refine E_if_eq (tgt := 59) dX5_kindOfTerm_52 (by decide) (fun c => ?_) (fun c => ?_)
        · have hB := hB.1 c
          refine E_iconst (v := (-1)) dX5_kindOfTerm_59 (by decide) ?_
          exact E_iret rfl dX5_kindOfTerm_60 ⟨_, rfl, hE4, hB⟩
        · have hB := hB.2 c
          refine E_iconst (v := 0) dX5_kindOfTerm_55 (by decide) ?_
          refine E_goto (tgt := 60) dX5_kindOfTerm_56 (by decide) ?_
          exact E_iret rfl dX5_kindOfTerm_60 ⟨_, rfl, hE4, hB⟩
      · have hB := hB.2 c
        refine E_iconst (v := 3) dX5_kindOfTerm_43 (by decide) ?_
        exact E_iret rfl dX5_kindOfTerm_44 ⟨_, rfl, hE3, hB⟩
    · have hB := hB.2 c
      refine E_iconst (v := 2) dX5_kindOfTerm_28 (by decide) ?_
      exact E_iret rfl dX5_kindOfTerm_29 ⟨_, rfl, hE2, hB⟩
  · have hB := hB.2 c
    refine E_iconst (v := 1) dX5_kindOfTerm_13 (by decide) ?_
    exact E_iret rfl dX5_kindOfTerm_14 ⟨_, rfl, hE1, hB⟩

set_option maxRecDepth 20000 in
set_option maxHeartbeats 2000000 in
theorem kX5_readTerm_0 {K : KT} {G : St} {Q : Int32 → St → Prop} {t1 : Nat} (hL : Lay G.2.2) (ht1 : t1 = 59 ∨ t1 = 62)
    (hB : EvI K mX5_kindOfTerm 2 0 [(0, .ref 4)] [] G (fun r1 G1 => ((¬ r1 = (-1) → (((sI G1 t1 2) < 4 → ((r1 = 0 → EvI K mX5_readTerm 3 83 [(0, .ref 4), (1, .ref t1), (2, .int r1)] [] G1 Q) ∧ (¬ r1 = 0 → EvV K mX7_advance 2 0 [(0, .ref 2)] [] G1 (fun G2 => ((¬ r1 = 1 → ((¬ (sI G2 2 3) = 2 → EvI K mX5_readTerm 3 72 [(0, .ref 4), (1, .ref t1), (2, .int r1)] [.int 0] G2 Q) ∧ ((sI G2 2 3) = 2 → EvI K mX5_readTerm 3 72 [(0, .ref 4), (1, .ref t1), (2, .int r1)] [.int 1] G2 Q))) ∧ (r1 = 1 → EvI K mX7_isName 1 0 [(0, .ref 2)] [] G2 (fun r3 G3 => EvI K mX5_readTerm 3 72 [(0, .ref 4), (1, .ref t1), (2, .int r1)] [.int r3] G3 Q))))))) ∧ (¬ (sI G1 t1 2) < 4 → EvI K mX5_faultHere 0 0 [(0, .ref 4), (1, .int 5)] [] G1 (fun r4 G4 => Q r4 G4)))) ∧ (r1 = (-1) → EvI K mX5_faultHere 0 0 [(0, .ref 4), (1, .int 1)] [] G1 (fun r5 G5 => Q r5 G5))))) :
    EvI K mX5_readTerm 3 0 [(0, .ref 4), (1, .ref t1)] [] G Q := by
  refine E_aload_n 0 dX5_readTerm_0 rfl rfl rfl ?_
  refine E_cV (ci := 5) (as := []) (st := []) cm_X5_kindOfTerm cV_X5_147 ⟨_, _, rfl⟩ (by decide) (lo_4 hL) rfl rfl (by decide) (Nat.le_of_ble_eq_true rfl) (Nat.le_of_ble_eq_true rfl) dX5_readTerm_1 hB (fun r G1 hr => ?_)
  obtain ⟨r1, rfl, hE1, hB⟩ := hr
  have hL1 : Lay G1.2.2 := by rw [hE1]; exact hL
  have hE1 : G1.2.2 = G.2.2 := hE1
  show Ev K mX5_readTerm 3 4 [(0, .ref 4), (1, .ref t1)] [.int r1] G1 _
  refine E_istore_n (lv' := [(0, .ref 4), (1, .ref t1), (2, .int r1)]) dX5_readTerm_4 rfl (by decide) rfl ?_
  refine E_iload_n 2 dX5_readTerm_5 rfl rfl ?_
  refine E_iconst (v := (-1)) dX5_readTerm_6 (by decide) ?_
  refine E_icmp_ne (tgt := 16) dX5_readTerm_7 (by decide) (fun c => ?_) (fun c => ?_)
  · have hB := hB.1 c
    refine E_aload_n 1 dX5_readTerm_16 rfl rfl rfl ?_
    refine E_gI (v := sI G1 t1 2) fG_X5_151 rfl (ltO hL1 ht1) rfl dX5_readTerm_17 ?_
    refine E_iconst (v := 4) dX5_readTerm_20 (by decide) ?_
    refine E_icmp_lt (tgt := 30) dX5_readTerm_21 (by decide) (fun c => ?_) (fun c => ?_)
    · have hB := hB.1 c
      refine E_iload_n 2 dX5_readTerm_30 rfl rfl ?_
      refine E_if_eq (tgt := 83) dX5_readTerm_31 (by decide) (fun c => ?_) (fun c => ?_)
      · have hB := hB.1 c
        exact EvI.tr hB hE1
      · have hB := hB.2 c
        refine E_aload_n 0 dX5_readTerm_34 rfl rfl rfl ?_
        refine E_gR (j := 2) fG_X5_9 rfl (lo_4 hL1) (lr_4_0 hL1) (by decide) dX5_readTerm_35 ?_
        refine E_cV (ci := 7) (as := []) (st := []) cm_X7_advance cV_X5_68 ⟨_, _, rfl⟩ (by decide) (lo_2 hL1) rfl rfl (by decide) (Nat.le_of_ble_eq_true rfl) (Nat.le_of_ble_eq_true rfl) dX5_readTerm_38 hB (fun r G2 hr => ?_)
        obtain ⟨rfl, hE2, hB⟩ := hr
        have hL2 : Lay G2.2.2 := by rw [hE2]; exact hL1
        have hE2 : G2.2.2 = G.2.2 := hE2.trans hE1
        show Ev K mX5_readTerm 3 41 [(0, .ref 4), (1, .ref t1), (2, .int r1)] [] G2 _
        refine E_iload_n 2 dX5_readTerm_41 rfl rfl ?_
        refine E_iconst (v := 1) dX5_readTerm_42 (by decide) ?_
        refine E_icmp_ne (tgt := 56) dX5_readTerm_43 (by decide) (fun c => ?_) (fun c => ?_)
        · have hB := hB.1 c
          refine E_aload_n 0 dX5_readTerm_56 rfl rfl rfl ?_
          refine E_gR (j := 2) fG_X5_9 rfl (lo_4 hL2) (lr_4_0 hL2) (by decide) dX5_readTerm_57 ?_
          refine E_gI (v := sI G2 2 3) fG_X5_25 rfl (lo_2 hL2) rfl dX5_readTerm_60 ?_
          refine E_iconst (v := 2) dX5_readTerm_63 (by decide) ?_
          refine E_icmp_ne (tgt := 71) dX5_readTerm_64 (by decide) (fun c => ?_) (fun c => ?_)
          · have hB := hB.1 c
            refine E_iconst (v := 0) dX5_readTerm_71 (by decide) ?_
            exact EvI.tr hB hE2
          · have hB := hB.2 c
            refine E_iconst (v := 1) dX5_readTerm_67 (by decide) ?_
            refine E_goto (tgt := 72) dX5_readTerm_68 (by decide) ?_
            exact EvI.tr hB hE2
        · have hB := hB.2 c
          refine E_aload_n 0 dX5_readTerm_46 rfl rfl rfl ?_
          refine E_gR (j := 2) fG_X5_9 rfl (lo_4 hL2) (lr_4_0 hL2) (by decide) dX5_readTerm_47 ?_
          refine E_cV (ci := 7) (as := []) (st := []) cm_X7_isName cV_X5_71 ⟨_, _, rfl⟩ (by decide) (lo_2 hL2) rfl rfl (by decide) (Nat.le_of_ble_eq_true rfl) (Nat.le_of_ble_eq_true rfl) dX5_readTerm_50 hB (fun r G3 hr => ?_)
          obtain ⟨r3, rfl, hE3, hB⟩ := hr
          have hL3 : Lay G3.2.2 := by rw [hE3]; exact hL2
          have hE3 : G3.2.2 = G.2.2 := hE3.trans hE2
          show Ev K mX5_readTerm 3 53 [(0, .ref 4), (1, .ref t1), (2, .int r1)] [.int r3] G3 _
          refine E_goto (tgt := 72) dX5_readTerm_53 (by decide) ?_
          exact EvI.tr hB hE3
    · have hB := hB.2 c
      refine E_aload_n 0 dX5_readTerm_24 rfl rfl rfl ?_
      refine E_iconst (v := 5) dX5_readTerm_25 (by decide) ?_
      refine E_cV (ci := 5) (as := [.int 5]) (st := []) cm_X5_faultHere cV_X5_61 ⟨_, _, rfl⟩ (by decide) (lo_4 hL1) rfl rfl (by decide) (Nat.le_of_ble_eq_true rfl) (Nat.le_of_ble_eq_true rfl) dX5_readTerm_26 hB (fun r G4 hr => ?_)
      obtain ⟨r4, rfl, hE4, hB⟩ := hr
      have hL4 : Lay G4.2.2 := by rw [hE4]; exact hL1
      have hE4 : G4.2.2 = G.2.2 := hE4.trans hE1
      show Ev K mX5_readTerm 3 29 [(0, .ref 4), (1, .ref t1), (2, .int r1)] [.int r4] G4 _
      exact E_iret rfl dX5_readTerm_29 ⟨_, rfl, hE4, hB⟩
  · have hB := hB.2 c
    refine E_aload_n 0 dX5_readTerm_10 rfl rfl rfl ?_
    refine E_iconst (v := 1) dX5_readTerm_11 (by decide) ?_
    refine E_cV (ci := 5) (as := [.int 1]) (st := []) cm_X5_faultHere cV_X5_61 ⟨_, _, rfl⟩ (by decide) (lo_4 hL1) rfl rfl (by decide) (Nat.le_of_ble_eq_true rfl) (Nat.le_of_ble_eq_true rfl) dX5_readTerm_12 hB (fun r G5 hr => ?_)
    obtain ⟨r5, rfl, hE5, hB⟩ := hr
    have hL5 : Lay G5.2.2 := by rw [hE5]; exact hL1
    have hE5 : G5.2.2 = G.2.2 := hE5.trans hE1
    show Ev K mX5_readTerm 3 15 [(0, .ref 4), (1, .ref t1), (2, .int r1)] [.int r5] G5 _
    exact E_iret rfl dX5_readTerm_15 ⟨_, rfl, hE5, hB⟩

set_option maxRecDepth 20000 in
set_option maxHeartbeats 2000000 in
theorem kX5_readTerm_72 {K : KT} {G : St} {Q : Int32 → St → Prop} {t1 : Nat} {x2 : Int32} {xs0 : Int32} (hL : Lay G.2.2) (ht1 : t1 = 59 ∨ t1 = 62)
    (hB : ((¬ xs0 = 0 → EvI K mX5_readTerm 3 83 [(0, .ref 4), (1, .ref t1), (2, .int x2)] [] G Q) ∧ (xs0 = 0 → EvI K mX5_faultHere 0 0 [(0, .ref 4), (1, .int 1)] [] G (fun r1 G1 => Q r1 G1)))) :
    EvI K mX5_readTerm 3 72 [(0, .ref 4), (1, .ref t1), (2, .int x2)] [.int xs0] G Q := by
  refine E_istore_n (lv' := [(0, .ref 4), (1, .ref t1), (2, .int x2), (3, .int xs0)]) dX5_readTerm_72 rfl (by decide) rfl ?_
  refine E_iload_n 3 dX5_readTerm_73 rfl rfl ?_
  refine E_if_ne (tgt := 83) dX5_readTerm_74 (by decide) (fun c => ?_) (fun c => ?_)
  · have hB := hB.1 c
    refine E_sub (lv' := [(0, .ref 4), (1, .ref t1), (2, .int x2)]) [0, 1, 2] rfl ?_
    exact EvI.tr hB rfl
  · have hB := hB.2 c
    refine E_aload_n 0 dX5_readTerm_77 rfl rfl rfl ?_
    refine E_iconst (v := 1) dX5_readTerm_78 (by decide) ?_
    refine E_cV (ci := 5) (as := [.int 1]) (st := []) cm_X5_faultHere cV_X5_61 ⟨_, _, rfl⟩ (by decide) (lo_4 hL) rfl rfl (by decide) (Nat.le_of_ble_eq_true rfl) (Nat.le_of_ble_eq_true rfl) dX5_readTerm_79 hB (fun r G1 hr => ?_)
    obtain ⟨r1, rfl, hE1, hB⟩ := hr
    have hL1 : Lay G1.2.2 := by rw [hE1]; exact hL
    have hE1 : G1.2.2 = G.2.2 := hE1
    show Ev K mX5_readTerm 3 82 [(0, .ref 4), (1, .ref t1), (2, .int x2), (3, .int xs0)] [.int r1] G1 _
    exact E_iret rfl dX5_readTerm_82 ⟨_, rfl, hE1, hB⟩

set_option maxRecDepth 20000 in
set_option maxHeartbeats 2000000 in
theorem kX5_readTerm_83 {K : KT} {G : St} {Q : Int32 → St → Prop} {t1 : Nat} {x2 : Int32} (hL : Lay G.2.2) (ht1 : t1 = 59 ∨ t1 = 62)
    (hB : EvV K mX8_add 0 0 [(0, .ref t1), (1, .int x2), (2, .long (sL G 2 5))] [] G (fun G1 => EvV K mX7_advance 2 0 [(0, .ref 2)] [] G1 (fun G2 => Q 0 G2))) :
    EvI K mX5_readTerm 3 83 [(0, .ref 4), (1, .ref t1), (2, .int x2)] [] G Q := by
  refine E_aload_n 1 dX5_readTerm_83 rfl rfl rfl ?_
  refine E_iload_n 2 dX5_readTerm_84 rfl rfl ?_
  refine E_aload_n 0 dX5_readTerm_85 rfl rfl rfl ?_
  refine E_gR (j := 2) fG_X5_9 rfl (lo_4 hL) (lr_4_0 hL) (by decide) dX5_readTerm_86 ?_
  refine E_gL (v := sL G 2 5) fG_X5_75 rfl (lo_2 hL) rfl dX5_readTerm_89 ?_
  refine E_cV (ci := 8) (as := [.int x2, .long (sL G 2 5)]) (st := []) cm_X8_add cV_X5_154 ⟨_, _, rfl⟩ (by decide) (ltO hL ht1) rfl rfl (by decide) (Nat.le_of_ble_eq_true rfl) (Nat.le_of_ble_eq_true rfl) dX5_readTerm_92 hB (fun r G1 hr => ?_)
  obtain ⟨rfl, hE1, hB⟩ := hr
  have hL1 : Lay G1.2.2 := by rw [hE1]; exact hL
  have hE1 : G1.2.2 = G.2.2 := hE1
  show Ev K mX5_readTerm 3 95 [(0, .ref 4), (1, .ref t1), (2, .int x2)] [] G1 _
  refine E_aload_n 0 dX5_readTerm_95 rfl rfl rfl ?_
  refine E_gR (j := 2) fG_X5_9 rfl (lo_4 hL1) (lr_4_0 hL1) (by decide) dX5_readTerm_96 ?_
  refine E_cV (ci := 7) (as := []) (st := []) cm_X7_advance cV_X5_68 ⟨_, _, rfl⟩ (by decide) (lo_2 hL1) rfl rfl (by decide) (Nat.le_of_ble_eq_true rfl) (Nat.le_of_ble_eq_true rfl) dX5_readTerm_99 hB (fun r G2 hr => ?_)
  obtain ⟨rfl, hE2, hB⟩ := hr
  have hL2 : Lay G2.2.2 := by rw [hE2]; exact hL1
  have hE2 : G2.2.2 = G.2.2 := hE2.trans hE1
  show Ev K mX5_readTerm 3 102 [(0, .ref 4), (1, .ref t1), (2, .int x2)] [] G2 _
  refine E_iconst (v := 0) dX5_readTerm_102 (by decide) ?_
  exact E_iret rfl dX5_readTerm_103 ⟨_, rfl, hE2, hB⟩

set_option maxRecDepth 20000 in
set_option maxHeartbeats 2000000 in
theorem kX5_readAsk_0 {K : KT} {G : St} {Q : Int32 → St → Prop} {t1 : Nat} (hL : Lay G.2.2) (ht1 : t1 = 59 ∨ t1 = 62)
    (hB : EvV K mX8_clear 0 0 [(0, .ref t1)] [] G (fun G1 => EvV K mX7_rewind 3 0 [(0, .ref 2)] [] G1 (fun G2 => EvI K mX5_readTerm 3 0 [(0, .ref 4), (1, .ref t1)] [] G2 (fun r3 G3 => EvI K mX5_readAsk 4 19 [(0, .ref 4), (1, .ref t1), (2, .int r3), (3, .int 0)] [] G3 Q)))) :
    EvI K mX5_readAsk 4 0 [(0, .ref 4), (1, .ref t1)] [] G Q := by
  refine E_aload_n 1 dX5_readAsk_0 rfl rfl rfl ?_
  refine E_cV (ci := 8) (as := []) (st := []) cm_X8_clear cV_X5_36 ⟨_, _, rfl⟩ (by decide) (ltO hL ht1) rfl rfl (by decide) (Nat.le_of_ble_eq_true rfl) (Nat.le_of_ble_eq_true rfl) dX5_readAsk_1 hB (fun r G1 hr => ?_)
  obtain ⟨rfl, hE1, hB⟩ := hr
  have hL1 : Lay G1.2.2 := by rw [hE1]; exact hL
  have hE1 : G1.2.2 = G.2.2 := hE1
  show Ev K mX5_readAsk 4 4 [(0, .ref 4), (1, .ref t1)] [] G1 _
  refine E_aload_n 0 dX5_readAsk_4 rfl rfl rfl ?_
  refine E_gR (j := 2) fG_X5_9 rfl (lo_4 hL1) (lr_4_0 hL1) (by decide) dX5_readAsk_5 ?_
  refine E_cV (ci := 7) (as := []) (st := []) cm_X7_rewind cV_X5_20 ⟨_, _, rfl⟩ (by decide) (lo_2 hL1) rfl rfl (by decide) (Nat.le_of_ble_eq_true rfl) (Nat.le_of_ble_eq_true rfl) dX5_readAsk_8 hB (fun r G2 hr => ?_)
  obtain ⟨rfl, hE2, hB⟩ := hr
  have hL2 : Lay G2.2.2 := by rw [hE2]; exact hL1
  have hE2 : G2.2.2 = G.2.2 := hE2.trans hE1
  show Ev K mX5_readAsk 4 11 [(0, .ref 4), (1, .ref t1)] [] G2 _
  refine E_aload_n 0 dX5_readAsk_11 rfl rfl rfl ?_
  refine E_aload_n 1 dX5_readAsk_12 rfl rfl rfl ?_
  refine E_cV (ci := 5) (as := [.ref t1]) (st := []) cm_X5_readTerm cV_X5_39 ⟨_, _, rfl⟩ (by decide) (lo_4 hL2) rfl rfl (by decide) (Nat.le_of_ble_eq_true rfl) (Nat.le_of_ble_eq_true rfl) dX5_readAsk_13 hB (fun r G3 hr => ?_)
  obtain ⟨r3, rfl, hE3, hB⟩ := hr
  have hL3 : Lay G3.2.2 := by rw [hE3]; exact hL2
  have hE3 : G3.2.2 = G.2.2 := hE3.trans hE2
  show Ev K mX5_readAsk 4 16 [(0, .ref 4), (1, .ref t1)] [.int r3] G3 _
  refine E_istore_n (lv' := [(0, .ref 4), (1, .ref t1), (2, .int r3)]) dX5_readAsk_16 rfl (by decide) rfl ?_
  refine E_iconst (v := 0) dX5_readAsk_17 (by decide) ?_
  refine E_istore_n (lv' := [(0, .ref 4), (1, .ref t1), (2, .int r3), (3, .int 0)]) dX5_readAsk_18 rfl (by decide) rfl ?_
  exact EvI.tr hB hE3

set_option maxRecDepth 20000 in
set_option maxHeartbeats 2000000 in
theorem kX5_readAsk_19 {K : KT} {G : St} {Q : Int32 → St → Prop} {t1 : Nat} {x2 : Int32} {x3 : Int32} (hL : Lay G.2.2) (ht1 : t1 = 59 ∨ t1 = 62)
    (hB : ((4 ≤ x3 → Q x2 G) ∧ (¬ 4 ≤ x3 → ((¬ x2 = 0 → Q x2 G) ∧ (x2 = 0 → (((sI G 2 3) = 0 → Q x2 G) ∧ (¬ (sI G 2 3) = 0 → EvI K mX5_readTerm 3 0 [(0, .ref 4), (1, .ref t1)] [] G (fun r1 G1 => EvI K mX5_readAsk 4 19 [(0, .ref 4), (1, .ref t1), (2, .int r1), (3, .int (x3 + 1))] [] G1 Q)))))))) :
    EvI K mX5_readAsk 4 19 [(0, .ref 4), (1, .ref t1), (2, .int x2), (3, .int x3)] [] G Q := by
  refine E_iload_n 3 dX5_readAsk_19 rfl rfl ?_
  refine E_iconst (v := 4) dX5_readAsk_20 (by decide) ?_
  refine E_icmp_ge (tgt := 50) dX5_readAsk_21 (by decide) (fun c => ?_) (fun c => ?_)
  · have hB := hB.1 c
    refine E_iload_n 2 dX5_readAsk_50 rfl rfl ?_
    exact E_iret rfl dX5_readAsk_51 ⟨_, rfl, rfl, hB⟩
  · have hB := hB.2 c
    refine E_iload_n 2 dX5_readAsk_24 rfl rfl ?_
    refine E_if_ne (tgt := 50) dX5_readAsk_25 (by decide) (fun c => ?_) (fun c => ?_)
    · have hB := hB.1 c
      refine E_iload_n 2 dX5_readAsk_50 rfl rfl ?_
      exact E_iret rfl dX5_readAsk_51 ⟨_, rfl, rfl, hB⟩
    · have hB := hB.2 c
      refine E_aload_n 0 dX5_readAsk_28 rfl rfl rfl ?_
      refine E_gR (j := 2) fG_X5_9 rfl (lo_4 hL) (lr_4_0 hL) (by decide) dX5_readAsk_29 ?_
      refine E_gI (v := sI G 2 3) fG_X5_25 rfl (lo_2 hL) rfl dX5_readAsk_32 ?_
      refine E_if_eq (tgt := 50) dX5_readAsk_35 (by decide) (fun c => ?_) (fun c => ?_)
      · have hB := hB.1 c
        refine E_iload_n 2 dX5_readAsk_50 rfl rfl ?_
        exact E_iret rfl dX5_readAsk_51 ⟨_, rfl, rfl, hB⟩
      · have hB := hB.2 c
        refine E_aload_n 0 dX5_readAsk_38 rfl rfl rfl ?_
        refine E_aload_n 1 dX5_readAsk_39 rfl rfl rfl ?_
        refine E_cV (ci := 5) (as := [.ref t1]) (st := []) cm_X5_readTerm cV_X5_39 ⟨_, _, rfl⟩ (by decide) (lo_4 hL) rfl rfl (by decide) (Nat.le_of_ble_eq_true rfl) (Nat.le_of_ble_eq_true rfl) dX5_readAsk_40 hB (fun r G1 hr => ?_)
        obtain ⟨r1, rfl, hE1, hB⟩ := hr
        have hL1 : Lay G1.2.2 := by rw [hE1]; exact hL
        have hE1 : G1.2.2 = G.2.2 := hE1
        show Ev K mX5_readAsk 4 43 [(0, .ref 4), (1, .ref t1), (2, .int x2), (3, .int x3)] [.int r1] G1 _
        refine E_istore_n (lv' := [(0, .ref 4), (1, .ref t1), (2, .int r1), (3, .int x3)]) dX5_readAsk_43 rfl (by decide) rfl ?_
        refine E_iinc (v := x3 + 1) (lv' := [(0, .ref 4), (1, .ref t1), (2, .int r1), (3, .int (x3 + 1))]) 3 dX5_readAsk_44 rfl rfl (by decide) rfl ?_
        refine E_goto (tgt := 19) dX5_readAsk_47 (by decide) ?_
        exact EvI.tr hB hE1

set_option maxRecDepth 20000 in
set_option maxHeartbeats 2000000 in
theorem kX5_readShapeRows_0 {K : KT} {G : St} {Q : Int32 → St → Prop} {h1 : Nat} (hL : Lay G.2.2) (hh1 : h1 = 39 ∨ h1 = 49)
    (hB : EvI K mX5_readShapeRows 4 2 [(0, .ref 4), (1, .ref h1), (2, .int 0)] [] G Q) :
    EvI K mX5_readShapeRows 4 0 [(0, .ref 4), (1, .ref h1)] [] G Q := by
  refine E_iconst (v := 0) dX5_readShapeRows_0 (by decide) ?_
  refine E_istore_n (lv' := [(0, .ref 4), (1, .ref h1), (2, .int 0)]) dX5_readShapeRows_1 rfl (by decide) rfl ?_
  exact EvI.tr hB rfl

set_option maxRecDepth 20000 in
set_option maxHeartbeats 2000000 in
theorem kX5_readShapeRows_2 {K : KT} {G : St} {Q : Int32 → St → Prop} {h1 : Nat} {x2 : Int32} (hL : Lay G.2.2) (hh1 : h1 = 39 ∨ h1 = 49)
    (hB : ((5 < x2 → EvI K mX5_readShapeRows 4 87 [(0, .ref 4)] [] G Q) ∧ (¬ 5 < x2 → EvI K mX5_faultOfTableName 2 0 [(0, .ref 4), (1, .ref h1)] [] G (fun r1 G1 => ((r1 = 0 → ((x2 < 5 → EvI K mX1_tableNamed 0 0 [(0, .ref h1), (1, .long (sL G1 2 5))] [] G1 (fun r2 G2 => EvI K mX4_withRow 0 0 [(0, .int (sI G1 4 1)), (1, .int r2)] [] G2 (fun r3 G3 => EvV K mX7_advance 2 0 [(0, .ref 2)] [] (uI G3 4 1 r3) (fun G4 => EvI K mX7_isSign 0 0 [(0, .ref 2), (1, .int 44)] [] G4 (fun r5 G5 => ((¬ r5 = 0 → EvV K mX7_advance 2 0 [(0, .ref 2)] [] G5 (fun G6 => EvI K mX5_readShapeRows 4 2 [(0, .ref 4), (1, .ref h1), (2, .int (x2 + 1))] [] G6 Q)) ∧ (r5 = 0 → EvI K mX5_readShapeRows 4 87 [(0, .ref 4)] [] G5 Q))))))) ∧ (¬ x2 < 5 → EvI K mX5_faultHere 0 0 [(0, .ref 4), (1, .int 5)] [] G1 (fun r7 G7 => Q r7 G7)))) ∧ (¬ r1 = 0 → Q r1 G1)))))) :
    EvI K mX5_readShapeRows 4 2 [(0, .ref 4), (1, .ref h1), (2, .int x2)] [] G Q := by
  refine E_iload_n 2 dX5_readShapeRows_2 rfl rfl ?_
  refine E_iconst (v := 5) dX5_readShapeRows_3 (by decide) ?_
  refine E_icmp_gt (tgt := 87) dX5_readShapeRows_4 (by decide) (fun c => ?_) (fun c => ?_)
  · have hB := hB.1 c
    refine E_sub (lv' := [(0, .ref 4)]) [0] rfl ?_
    exact EvI.tr hB rfl
  · have hB := hB.2 c
    refine E_aload_n 0 dX5_readShapeRows_7 rfl rfl rfl ?_
    refine E_aload_n 1 dX5_readShapeRows_8 rfl rfl rfl ?_
    refine E_cV (ci := 5) (as := [.ref h1]) (st := []) cm_X5_faultOfTableName cV_X5_118 ⟨_, _, rfl⟩ (by decide) (lo_4 hL) rfl rfl (by decide) (Nat.le_of_ble_eq_true rfl) (Nat.le_of_ble_eq_true rfl) dX5_readShapeRows_9 hB (fun r G1 hr => ?_)
    obtain ⟨r1, rfl, hE1, hB⟩ := hr
    have hL1 : Lay G1.2.2 := by rw [hE1]; exact hL
    have hE1 : G1.2.2 = G.2.2 := hE1
    show Ev K mX5_readShapeRows 4 12 [(0, .ref 4), (1, .ref h1), (2, .int x2)] [.int r1] G1 _
    refine E_istore_n (lv' := [(0, .ref 4), (1, .ref h1), (2, .int x2), (3, .int r1)]) dX5_readShapeRows_12 rfl (by decide) rfl ?_
    refine E_iload_n 3 dX5_readShapeRows_13 rfl rfl ?_
    refine E_if_eq (tgt := 19) dX5_readShapeRows_14 (by decide) (fun c => ?_) (fun c => ?_)
    · have hB := hB.1 c
      refine E_iload_n 2 dX5_readShapeRows_19 rfl rfl ?_
      refine E_iconst (v := 5) dX5_readShapeRows_20 (by decide) ?_
      refine E_icmp_lt (tgt := 30) dX5_readShapeRows_21 (by decide) (fun c => ?_) (fun c => ?_)
      · have hB := hB.1 c
        refine E_aload_n 0 dX5_readShapeRows_30 rfl rfl rfl ?_
        refine E_aload_n 0 dX5_readShapeRows_31 rfl rfl rfl ?_
        refine E_gI (v := sI G1 4 1) fG_X5_43 rfl (lo_4 hL1) rfl dX5_readShapeRows_32 ?_
        refine E_aload_n 1 dX5_readShapeRows_35 rfl rfl rfl ?_
        refine E_aload_n 0 dX5_readShapeRows_36 rfl rfl rfl ?_
        refine E_gR (j := 2) fG_X5_9 rfl (lo_4 hL1) (lr_4_0 hL1) (by decide) dX5_readShapeRows_37 ?_
        refine E_gL (v := sL G1 2 5) fG_X5_75 rfl (lo_2 hL1) rfl dX5_readShapeRows_40 ?_
        refine E_cV (ci := 1) (as := [.long (sL G1 2 5)]) (st := [.int (sI G1 4 1), .ref 4]) cm_X1_tableNamed cV_X5_79 ⟨_, _, rfl⟩ (by decide) (lhO hL1 hh1) rfl rfl (by decide) (Nat.le_of_ble_eq_true rfl) (Nat.le_of_ble_eq_true rfl) dX5_readShapeRows_43 hB (fun r G2 hr => ?_)
        obtain ⟨r2, rfl, hE2, hB⟩ := hr
        have hL2 : Lay G2.2.2 := by rw [hE2]; exact hL1
        have hE2 : G2.2.2 = G.2.2 := hE2.trans hE1
        show Ev K mX5_readShapeRows 4 46 [(0, .ref 4), (1, .ref h1), (2, .int x2), (3, .int r1)] [.int r2, .int (sI G1 4 1), .ref 4] G2 _
        refine E_callS (as := [.int (sI G1 4 1), .int r2]) (st := [.ref 4]) cm_X4_withRow cS_X5_165 rfl rfl (by decide) (Nat.le_of_ble_eq_true rfl) (Nat.le_of_ble_eq_true rfl) dX5_readShapeRows_46 hB (fun r G3 hr => ?_)
        obtain ⟨r3, rfl, hE3, hB⟩ := hr
        have hL3 : Lay G3.2.2 := by rw [hE3]; exact hL2
        have hE3 : G3.2.2 = G.2.2 := hE3.trans hE2
        show Ev K mX5_readShapeRows 4 49 [(0, .ref 4), (1, .ref h1), (2, .int x2), (3, .int r1)] [.int r3, .ref 4] G3 _
        refine E_pI fP_X5_43 rfl (lo_4 hL3) dX5_readShapeRows_49 ?_
        refine E_aload_n 0 dX5_readShapeRows_52 rfl rfl rfl ?_
        refine E_gR (j := 2) fG_X5_9 rfl (lo_4 hL3) (lr_4_0 hL3) (by decide) dX5_readShapeRows_53 ?_
        refine E_cV (ci := 7) (as := []) (st := []) cm_X7_advance cV_X5_68 ⟨_, _, rfl⟩ (by decide) (lo_2 hL3) rfl rfl (by decide) (Nat.le_of_ble_eq_true rfl) (Nat.le_of_ble_eq_true rfl) dX5_readShapeRows_56 hB (fun r G4 hr => ?_)
        obtain ⟨rfl, hE4, hB⟩ := hr
        have hL4 : Lay G4.2.2 := by rw [hE4]; exact hL3
        have hE4 : G4.2.2 = G.2.2 := hE4.trans hE3
        show Ev K mX5_readShapeRows 4 59 [(0, .ref 4), (1, .ref h1), (2, .int x2), (3, .int r1)] [] G4 _
        refine E_aload_n 0 dX5_readShapeRows_59 rfl rfl rfl ?_
        refine E_gR (j := 2) fG_X5_9 rfl (lo_4 hL4) (lr_4_0 hL4) (by decide) dX5_readShapeRows_60 ?_
        refine E_bipush (v := 44) dX5_readShapeRows_63 (by decide) ?_
        refine E_cV (ci := 7) (as := [.int 44]) (st := []) cm_X7_isSign cV_X5_94 ⟨_, _, rfl⟩ (by decide) (lo_2 hL4) rfl rfl (by decide) (Nat.le_of_ble_eq_true rfl) (Nat.le_of_ble_eq_true rfl) dX5_readShapeRows_65 hB (fun r G5 hr => ?_)
        obtain ⟨r5, rfl, hE5, hB⟩ := hr
        have hL5 : Lay G5.2.2 := by rw [hE5]; exact hL4
        have hE5 : G5.2.2 = G.2.2 := hE5.trans hE4
        show Ev K mX5_readShapeRows 4 68 [(0, .ref 4), (1, .ref h1), (2, .int x2), (3, .int r1)] [.int r5] G5 _
        refine E_if_ne (tgt := 74) dX5_readShapeRows_68 (by decide) (fun c => ?_) (fun c => ?_)
        · have hB := hB.1 c
          refine E_aload_n 0 dX5_readShapeRows_74 rfl rfl rfl ?_
          refine E_gR (j := 2) fG_X5_9 rfl (lo_4 hL5) (lr_4_0 hL5) (by decide) dX5_readShapeRows_75 ?_
          refine E_cV (ci := 7) (as := []) (st := []) cm_X7_advance cV_X5_68 ⟨_, _, rfl⟩ (by decide) (lo_2 hL5) rfl rfl (by decide) (Nat.le_of_ble_eq_true rfl) (Nat.le_of_ble_eq_true rfl) dX5_readShapeRows_78 hB (fun r G6 hr => ?_)
          obtain ⟨rfl, hE6, hB⟩ := hr
          have hL6 : Lay G6.2.2 := by rw [hE6]; exact hL5
          have hE6 : G6.2.2 = G.2.2 := hE6.trans hE5
          show Ev K mX5_readShapeRows 4 81 [(0, .ref 4), (1, .ref h1), (2, .int x2), (3, .int r1)] [] G6 _
          refine E_iinc (v := x2 + 1) (lv' := [(0, .ref 4), (1, .ref h1), (2, .int (x2 + 1)), (3, .int r1)]) 2 dX5_readShapeRows_81 rfl rfl (by decide) rfl ?_
          refine E_goto (tgt := 2) dX5_readShapeRows_84 (by decide) ?_
          refine E_sub (lv' := [(0, .ref 4), (1, .ref h1), (2, .int (x2 + 1))]) [0, 1, 2] rfl ?_
          exact EvI.tr hB hE6
        · have hB := hB.2 c
          refine E_goto (tgt := 87) dX5_readShapeRows_71 (by decide) ?_
          refine E_sub (lv' := [(0, .ref 4)]) [0] rfl ?_
          exact EvI.tr hB hE5
      · have hB := hB.2 c
        refine E_aload_n 0 dX5_readShapeRows_24 rfl rfl rfl ?_
        refine E_iconst (v := 5) dX5_readShapeRows_25 (by decide) ?_
        refine E_cV (ci := 5) (as := [.int 5]) (st := []) cm_X5_faultHere cV_X5_61 ⟨_, _, rfl⟩ (by decide) (lo_4 hL1) rfl rfl (by decide) (Nat.le_of_ble_eq_true rfl) (Nat.le_of_ble_eq_true rfl) dX5_readShapeRows_26 hB (fun r G7 hr => ?_)
        obtain ⟨r7, rfl, hE7, hB⟩ := hr
        have hL7 : Lay G7.2.2 := by rw [hE7]; exact hL1
        have hE7 : G7.2.2 = G.2.2 := hE7.trans hE1
        show Ev K mX5_readShapeRows 4 29 [(0, .ref 4), (1, .ref h1), (2, .int x2), (3, .int r1)] [.int r7] G7 _
        exact E_iret rfl dX5_readShapeRows_29 ⟨_, rfl, hE7, hB⟩
    · have hB := hB.2 c
      refine E_iload_n 3 dX5_readShapeRows_17 rfl rfl ?_
      exact E_iret rfl dX5_readShapeRows_18 ⟨_, rfl, hE1, hB⟩

set_option maxRecDepth 20000 in
set_option maxHeartbeats 2000000 in
theorem kX5_readShapeRows_87 {K : KT} {G : St} {Q : Int32 → St → Prop}  (hL : Lay G.2.2) 
    (hB : EvI K mX5_passSign 3 0 [(0, .ref 4), (1, .int 58)] [] G (fun r1 G1 => Q r1 G1)) :
    EvI K mX5_readShapeRows 4 87 [(0, .ref 4)] [] G Q := by
  refine E_aload_n 0 dX5_readShapeRows_87 rfl rfl rfl ?_
  refine E_bipush (v := 58) dX5_readShapeRows_88 (by decide) ?_
  refine E_cV (ci := 5) (as := [.int 58]) (st := []) cm_X5_passSign cV_X5_98 ⟨_, _, rfl⟩ (by decide) (lo_4 hL) rfl rfl (by decide) (Nat.le_of_ble_eq_true rfl) (Nat.le_of_ble_eq_true rfl) dX5_readShapeRows_90 hB (fun r G1 hr => ?_)
  obtain ⟨r1, rfl, hE1, hB⟩ := hr
  have hL1 : Lay G1.2.2 := by rw [hE1]; exact hL
  have hE1 : G1.2.2 = G.2.2 := hE1
  show Ev K mX5_readShapeRows 4 93 [(0, .ref 4)] [.int r1] G1 _
  exact E_iret rfl dX5_readShapeRows_93 ⟨_, rfl, hE1, hB⟩

set_option maxRecDepth 20000 in
set_option maxHeartbeats 2000000 in
theorem kX5_readTableOfTerm_0 {K : KT} {G : St} {Q : Int32 → St → Prop} {h1 : Nat} {x2 : Int32} (hL : Lay G.2.2) (hh1 : h1 = 39 ∨ h1 = 49)
    (hB : EvI K mX7_isWord 0 0 [(0, .ref 2), (1, .long 411)] [] G (fun r1 G1 => ((¬ r1 = 0 → EvV K mX7_advance 2 0 [(0, .ref 2)] [] G1 (fun G2 => EvI K mX5_faultOfTableName 2 0 [(0, .ref 4), (1, .ref h1)] [] G2 (fun r3 G3 => ((¬ r3 = 0 → Q r3 G3) ∧ (r3 = 0 → EvI K mX1_tableNamed 0 0 [(0, .ref h1), (1, .long (sL G3 2 5))] [] G3 (fun r4 G4 => EvI K mX4_withTerm 0 0 [(0, .int (sI G3 4 1)), (1, .int x2), (2, .int r4)] [] G4 (fun r5 G5 => EvV K mX7_advance 2 0 [(0, .ref 2)] [] (uI G5 4 1 r5) (fun G6 => Q r3 G6)))))))) ∧ (r1 = 0 → EvI K mX5_faultHere 0 0 [(0, .ref 4), (1, .int 1)] [] G1 (fun r7 G7 => Q r7 G7))))) :
    EvI K mX5_readTableOfTerm 3 0 [(0, .ref 4), (1, .ref h1), (2, .int x2)] [] G Q := by
  refine E_aload_n 0 dX5_readTableOfTerm_0 rfl rfl rfl ?_
  refine E_gR (j := 2) fG_X5_9 rfl (lo_4 hL) (lr_4_0 hL) (by decide) dX5_readTableOfTerm_1 ?_
  refine E_ldc2 (v := 411) tm_663 dX5_readTableOfTerm_4 ?_
  refine E_cV (ci := 7) (as := [.long 411]) (st := []) cm_X7_isWord cV_X5_57 ⟨_, _, rfl⟩ (by decide) (lo_2 hL) rfl rfl (by decide) (Nat.le_of_ble_eq_true rfl) (Nat.le_of_ble_eq_true rfl) dX5_readTableOfTerm_7 hB (fun r G1 hr => ?_)
  obtain ⟨r1, rfl, hE1, hB⟩ := hr
  have hL1 : Lay G1.2.2 := by rw [hE1]; exact hL
  have hE1 : G1.2.2 = G.2.2 := hE1
  show Ev K mX5_readTableOfTerm 3 10 [(0, .ref 4), (1, .ref h1), (2, .int x2)] [.int r1] G1 _
  refine E_if_ne (tgt := 19) dX5_readTableOfTerm_10 (by decide) (fun c => ?_) (fun c => ?_)
  · have hB := hB.1 c
    refine E_aload_n 0 dX5_readTableOfTerm_19 rfl rfl rfl ?_
    refine E_gR (j := 2) fG_X5_9 rfl (lo_4 hL1) (lr_4_0 hL1) (by decide) dX5_readTableOfTerm_20 ?_
    refine E_cV (ci := 7) (as := []) (st := []) cm_X7_advance cV_X5_68 ⟨_, _, rfl⟩ (by decide) (lo_2 hL1) rfl rfl (by decide) (Nat.le_of_ble_eq_true rfl) (Nat.le_of_ble_eq_true rfl) dX5_readTableOfTerm_23 hB (fun r G2 hr => ?_)
    obtain ⟨rfl, hE2, hB⟩ := hr
    have hL2 : Lay G2.2.2 := by rw [hE2]; exact hL1
    have hE2 : G2.2.2 = G.2.2 := hE2.trans hE1
    show Ev K mX5_readTableOfTerm 3 26 [(0, .ref 4), (1, .ref h1), (2, .int x2)] [] G2 _
    refine E_aload_n 0 dX5_readTableOfTerm_26 rfl rfl rfl ?_
    refine E_aload_n 1 dX5_readTableOfTerm_27 rfl rfl rfl ?_
    refine E_cV (ci := 5) (as := [.ref h1]) (st := []) cm_X5_faultOfTableName cV_X5_118 ⟨_, _, rfl⟩ (by decide) (lo_4 hL2) rfl rfl (by decide) (Nat.le_of_ble_eq_true rfl) (Nat.le_of_ble_eq_true rfl) dX5_readTableOfTerm_28 hB (fun r G3 hr => ?_)
    obtain ⟨r3, rfl, hE3, hB⟩ := hr
    have hL3 : Lay G3.2.2 := by rw [hE3]; exact hL2
    have hE3 : G3.2.2 = G.2.2 := hE3.trans hE2
    show Ev K mX5_readTableOfTerm 3 31 [(0, .ref 4), (1, .ref h1), (2, .int x2)] [.int r3] G3 _
    refine E_istore_n (lv' := [(0, .ref 4), (1, .ref h1), (2, .int x2), (3, .int r3)]) dX5_readTableOfTerm_31 rfl (by decide) rfl ?_
    refine E_iload_n 3 dX5_readTableOfTerm_32 rfl rfl ?_
    refine E_if_ne (tgt := 66) dX5_readTableOfTerm_33 (by decide) (fun c => ?_) (fun c => ?_)
    · have hB := hB.1 c
      refine E_iload_n 3 dX5_readTableOfTerm_66 rfl rfl ?_
      exact E_iret rfl dX5_readTableOfTerm_67 ⟨_, rfl, hE3, hB⟩
    · have hB := hB.2 c
      refine E_aload_n 0 dX5_readTableOfTerm_36 rfl rfl rfl ?_
      refine E_aload_n 0 dX5_readTableOfTerm_37 rfl rfl rfl ?_
      refine E_gI (v := sI G3 4 1) fG_X5_43 rfl (lo_4 hL3) rfl dX5_readTableOfTerm_38 ?_
      refine E_iload_n 2 dX5_readTableOfTerm_41 rfl rfl ?_
      refine E_aload_n 1 dX5_readTableOfTerm_42 rfl rfl rfl ?_
      refine E_aload_n 0 dX5_readTableOfTerm_43 rfl rfl rfl ?_
      refine E_gR (j := 2) fG_X5_9 rfl (lo_4 hL3) (lr_4_0 hL3) (by decide) dX5_readTableOfTerm_44 ?_
      refine E_gL (v := sL G3 2 5) fG_X5_75 rfl (lo_2 hL3) rfl dX5_readTableOfTerm_47 ?_
      refine E_cV (ci := 1) (as := [.long (sL G3 2 5)]) (st := [.int x2, .int (sI G3 4 1), .ref 4]) cm_X1_tableNamed cV_X5_79 ⟨_, _, rfl⟩ (by decide) (lhO hL3 hh1) rfl rfl (by decide) (Nat.le_of_ble_eq_true rfl) (Nat.le_of_ble_eq_true rfl) dX5_readTableOfTerm_50 hB (fun r G4 hr => ?_)
      obtain ⟨r4, rfl, hE4, hB⟩ := hr
      have hL4 : Lay G4.2.2 := by rw [hE4]; exact hL3
      have hE4 : G4.2.2 = G.2.2 := hE4.trans hE3
      show Ev K mX5_readTableOfTerm 3 53 [(0, .ref 4), (1, .ref h1), (2, .int x2), (3, .int r3)] [.int r4, .int x2, .int (sI G3 4 1), .ref 4] G4 _
      refine E_callS (as := [.int (sI G3 4 1), .int x2, .int r4]) (st := [.ref 4]) cm_X4_withTerm cS_X5_176 rfl rfl (by decide) (Nat.le_of_ble_eq_true rfl) (Nat.le_of_ble_eq_true rfl) dX5_readTableOfTerm_53 hB (fun r G5 hr => ?_)
      obtain ⟨r5, rfl, hE5, hB⟩ := hr
      have hL5 : Lay G5.2.2 := by rw [hE5]; exact hL4
      have hE5 : G5.2.2 = G.2.2 := hE5.trans hE4
      show Ev K mX5_readTableOfTerm 3 56 [(0, .ref 4), (1, .ref h1), (2, .int x2), (3, .int r3)] [.int r5, .ref 4] G5 _
      refine E_pI fP_X5_43 rfl (lo_4 hL5) dX5_readTableOfTerm_56 ?_
      refine E_aload_n 0 dX5_readTableOfTerm_59 rfl rfl rfl ?_
      refine E_gR (j := 2) fG_X5_9 rfl (lo_4 hL5) (lr_4_0 hL5) (by decide) dX5_readTableOfTerm_60 ?_
      refine E_cV (ci := 7) (as := []) (st := []) cm_X7_advance cV_X5_68 ⟨_, _, rfl⟩ (by decide) (lo_2 hL5) rfl rfl (by decide) (Nat.le_of_ble_eq_true rfl) (Nat.le_of_ble_eq_true rfl) dX5_readTableOfTerm_63 hB (fun r G6 hr => ?_)
      obtain ⟨rfl, hE6, hB⟩ := hr
      have hL6 : Lay G6.2.2 := by rw [hE6]; exact hL5
      have hE6 : G6.2.2 = G.2.2 := hE6.trans hE5
      show Ev K mX5_readTableOfTerm 3 66 [(0, .ref 4), (1, .ref h1), (2, .int x2), (3, .int r3)] [] G6 _
      refine E_iload_n 3 dX5_readTableOfTerm_66 rfl rfl ?_
      exact E_iret rfl dX5_readTableOfTerm_67 ⟨_, rfl, hE6, hB⟩
  · have hB := hB.2 c
    refine E_aload_n 0 dX5_readTableOfTerm_13 rfl rfl rfl ?_
    refine E_iconst (v := 1) dX5_readTableOfTerm_14 (by decide) ?_
    refine E_cV (ci := 5) (as := [.int 1]) (st := []) cm_X5_faultHere cV_X5_61 ⟨_, _, rfl⟩ (by decide) (lo_4 hL1) rfl rfl (by decide) (Nat.le_of_ble_eq_true rfl) (Nat.le_of_ble_eq_true rfl) dX5_readTableOfTerm_15 hB (fun r G7 hr => ?_)
    obtain ⟨r7, rfl, hE7, hB⟩ := hr
    have hL7 : Lay G7.2.2 := by rw [hE7]; exact hL1
    have hE7 : G7.2.2 = G.2.2 := hE7.trans hE1
    show Ev K mX5_readTableOfTerm 3 18 [(0, .ref 4), (1, .ref h1), (2, .int x2)] [.int r7] G7 _
    exact E_iret rfl dX5_readTableOfTerm_18 ⟨_, rfl, hE7, hB⟩

set_option maxRecDepth 20000 in
set_option maxHeartbeats 2000000 in
theorem kX5_readShapeTerms_0 {K : KT} {G : St} {Q : Int32 → St → Prop} {h1 : Nat} {t2 : Nat} (hL : Lay G.2.2) (hh1 : h1 = 39 ∨ h1 = 49) (ht2 : t2 = 59 ∨ t2 = 62)
    (hB : EvI K mX5_readShapeTerms 4 2 [(0, .ref 4), (1, .ref h1), (2, .ref t2), (3, .int 0)] [] G Q) :
    EvI K mX5_readShapeTerms 4 0 [(0, .ref 4), (1, .ref h1), (2, .ref t2)] [] G Q := by
  refine E_iconst (v := 0) dX5_readShapeTerms_0 (by decide) ?_
  refine E_istore_n (lv' := [(0, .ref 4), (1, .ref h1), (2, .ref t2), (3, .int 0)]) dX5_readShapeTerms_1 rfl (by decide) rfl ?_
  exact EvI.tr hB rfl

set_option maxRecDepth 20000 in
set_option maxHeartbeats 2000000 in
theorem kX5_readShapeTerms_2 {K : KT} {G : St} {Q : Int32 → St → Prop} {h1 : Nat} {t2 : Nat} {x3 : Int32} (hL : Lay G.2.2) (hh1 : h1 = 39 ∨ h1 = 49) (ht2 : t2 = 59 ∨ t2 = 62)
    (hB : ((4 < x3 → EvI K mX5_readShapeTerms 4 73 [(0, .ref 4)] [] G Q) ∧ (¬ 4 < x3 → EvI K mX5_readTerm 3 0 [(0, .ref 4), (1, .ref t2)] [] G (fun r1 G1 => ((¬ r1 = 0 → EvI K mX5_readShapeTerms 4 27 [(0, .ref 4), (1, .ref h1), (2, .ref t2), (3, .int x3), (4, .int r1)] [] G1 Q) ∧ (r1 = 0 → EvI K mX5_readTableOfTerm 3 0 [(0, .ref 4), (1, .ref h1), (2, .int x3)] [] G1 (fun r2 G2 => EvI K mX5_readShapeTerms 4 27 [(0, .ref 4), (1, .ref h1), (2, .ref t2), (3, .int x3), (4, .int r2)] [] G2 Q))))))) :
    EvI K mX5_readShapeTerms 4 2 [(0, .ref 4), (1, .ref h1), (2, .ref t2), (3, .int x3)] [] G Q := by
  refine E_iload_n 3 dX5_readShapeTerms_2 rfl rfl ?_
  refine E_iconst (v := 4) dX5_readShapeTerms_3 (by decide) ?_
  refine E_icmp_gt (tgt := 73) dX5_readShapeTerms_4 (by decide) (fun c => ?_) (fun c => ?_)
  · have hB := hB.1 c
    refine E_sub (lv' := [(0, .ref 4)]) [0] rfl ?_
    exact EvI.tr hB rfl
  · have hB := hB.2 c
    refine E_aload_n 0 dX5_readShapeTerms_7 rfl rfl rfl ?_
    refine E_aload_n 2 dX5_readShapeTerms_8 rfl rfl rfl ?_
    refine E_cV (ci := 5) (as := [.ref t2]) (st := []) cm_X5_readTerm cV_X5_39 ⟨_, _, rfl⟩ (by decide) (lo_4 hL) rfl rfl (by decide) (Nat.le_of_ble_eq_true rfl) (Nat.le_of_ble_eq_true rfl) dX5_readShapeTerms_9 hB (fun r G1 hr => ?_)
    obtain ⟨r1, rfl, hE1, hB⟩ := hr
    have hL1 : Lay G1.2.2 := by rw [hE1]; exact hL
    have hE1 : G1.2.2 = G.2.2 := hE1
    show Ev K mX5_readShapeTerms 4 12 [(0, .ref 4), (1, .ref h1), (2, .ref t2), (3, .int x3)] [.int r1] G1 _
    refine E_istore (lv' := [(0, .ref 4), (1, .ref h1), (2, .ref t2), (3, .int x3), (4, .int r1)]) dX5_readShapeTerms_12 (by decide) rfl ?_
    refine E_iload 4 dX5_readShapeTerms_14 rfl ?_
    refine E_if_ne (tgt := 27) dX5_readShapeTerms_16 (by decide) (fun c => ?_) (fun c => ?_)
    · have hB := hB.1 c
      exact EvI.tr hB hE1
    · have hB := hB.2 c
      refine E_aload_n 0 dX5_readShapeTerms_19 rfl rfl rfl ?_
      refine E_aload_n 1 dX5_readShapeTerms_20 rfl rfl rfl ?_
      refine E_iload_n 3 dX5_readShapeTerms_21 rfl rfl ?_
      refine E_cV (ci := 5) (as := [.ref h1, .int x3]) (st := []) cm_X5_readTableOfTerm cV_X5_171 ⟨_, _, rfl⟩ (by decide) (lo_4 hL1) rfl rfl (by decide) (Nat.le_of_ble_eq_true rfl) (Nat.le_of_ble_eq_true rfl) dX5_readShapeTerms_22 hB (fun r G2 hr => ?_)
      obtain ⟨r2, rfl, hE2, hB⟩ := hr
      have hL2 : Lay G2.2.2 := by rw [hE2]; exact hL1
      have hE2 : G2.2.2 = G.2.2 := hE2.trans hE1
      show Ev K mX5_readShapeTerms 4 25 [(0, .ref 4), (1, .ref h1), (2, .ref t2), (3, .int x3), (4, .int r1)] [.int r2] G2 _
      refine E_istore (lv' := [(0, .ref 4), (1, .ref h1), (2, .ref t2), (3, .int x3), (4, .int r2)]) dX5_readShapeTerms_25 (by decide) rfl ?_
      exact EvI.tr hB hE2

set_option maxRecDepth 20000 in
set_option maxHeartbeats 2000000 in
theorem kX5_readShapeTerms_27 {K : KT} {G : St} {Q : Int32 → St → Prop} {h1 : Nat} {t2 : Nat} {x3 : Int32} {x4 : Int32} (hL : Lay G.2.2) (hh1 : h1 = 39 ∨ h1 = 49) (ht2 : t2 = 59 ∨ t2 = 62)
    (hB : ((¬ x4 = 0 → Q x4 G) ∧ (x4 = 0 → ((¬ (sI G 2 3) = 0 → EvI K mX7_isSign 0 0 [(0, .ref 2), (1, .int 44)] [] G (fun r1 G1 => ((¬ r1 = 0 → EvV K mX7_advance 2 0 [(0, .ref 2)] [] G1 (fun G2 => EvI K mX5_readShapeTerms 4 2 [(0, .ref 4), (1, .ref h1), (2, .ref t2), (3, .int (x3 + 1))] [] G2 Q)) ∧ (r1 = 0 → EvI K mX5_readShapeTerms 4 73 [(0, .ref 4)] [] G1 Q)))) ∧ ((sI G 2 3) = 0 → Q x4 G))))) :
    EvI K mX5_readShapeTerms 4 27 [(0, .ref 4), (1, .ref h1), (2, .ref t2), (3, .int x3), (4, .int x4)] [] G Q := by
  refine E_iload 4 dX5_readShapeTerms_27 rfl ?_
  refine E_if_ne (tgt := 42) dX5_readShapeTerms_29 (by decide) (fun c => ?_) (fun c => ?_)
  · have hB := hB.1 c
    refine E_iload 4 dX5_readShapeTerms_42 rfl ?_
    exact E_iret rfl dX5_readShapeTerms_44 ⟨_, rfl, rfl, hB⟩
  · have hB := hB.2 c
    refine E_aload_n 0 dX5_readShapeTerms_32 rfl rfl rfl ?_
    refine E_gR (j := 2) fG_X5_9 rfl (lo_4 hL) (lr_4_0 hL) (by decide) dX5_readShapeTerms_33 ?_
    refine E_gI (v := sI G 2 3) fG_X5_25 rfl (lo_2 hL) rfl dX5_readShapeTerms_36 ?_
    refine E_if_ne (tgt := 45) dX5_readShapeTerms_39 (by decide) (fun c => ?_) (fun c => ?_)
    · have hB := hB.1 c
      refine E_aload_n 0 dX5_readShapeTerms_45 rfl rfl rfl ?_
      refine E_gR (j := 2) fG_X5_9 rfl (lo_4 hL) (lr_4_0 hL) (by decide) dX5_readShapeTerms_46 ?_
      refine E_bipush (v := 44) dX5_readShapeTerms_49 (by decide) ?_
      refine E_cV (ci := 7) (as := [.int 44]) (st := []) cm_X7_isSign cV_X5_94 ⟨_, _, rfl⟩ (by decide) (lo_2 hL) rfl rfl (by decide) (Nat.le_of_ble_eq_true rfl) (Nat.le_of_ble_eq_true rfl) dX5_readShapeTerms_51 hB (fun r G1 hr => ?_)
      obtain ⟨r1, rfl, hE1, hB⟩ := hr
      have hL1 : Lay G1.2.2 := by rw [hE1]; exact hL
      have hE1 : G1.2.2 = G.2.2 := hE1
      show Ev K mX5_readShapeTerms 4 54 [(0, .ref 4), (1, .ref h1), (2, .ref t2), (3, .int x3), (4, .int x4)] [.int r1] G1 _
      refine E_if_ne (tgt := 60) dX5_readShapeTerms_54 (by decide) (fun c => ?_) (fun c => ?_)
      · have hB := hB.1 c
        refine E_aload_n 0 dX5_readShapeTerms_60 rfl rfl rfl ?_
        refine E_gR (j := 2) fG_X5_9 rfl (lo_4 hL1) (lr_4_0 hL1) (by decide) dX5_readShapeTerms_61 ?_
        refine E_cV (ci := 7) (as := []) (st := []) cm_X7_advance cV_X5_68 ⟨_, _, rfl⟩ (by decide) (lo_2 hL1) rfl rfl (by decide) (Nat.le_of_ble_eq_true rfl) (Nat.le_of_ble_eq_true rfl) dX5_readShapeTerms_64 hB (fun r G2 hr => ?_)
        obtain ⟨rfl, hE2, hB⟩ := hr
        have hL2 : Lay G2.2.2 := by rw [hE2]; exact hL1
        have hE2 : G2.2.2 = G.2.2 := hE2.trans hE1
        show Ev K mX5_readShapeTerms 4 67 [(0, .ref 4), (1, .ref h1), (2, .ref t2), (3, .int x3), (4, .int x4)] [] G2 _
        refine E_iinc (v := x3 + 1) (lv' := [(0, .ref 4), (1, .ref h1), (2, .ref t2), (3, .int (x3 + 1)), (4, .int x4)]) 3 dX5_readShapeTerms_67 rfl rfl (by decide) rfl ?_
        refine E_goto (tgt := 2) dX5_readShapeTerms_70 (by decide) ?_
        refine E_sub (lv' := [(0, .ref 4), (1, .ref h1), (2, .ref t2), (3, .int (x3 + 1))]) [0, 1, 2, 3] rfl ?_
        exact EvI.tr hB hE2
      · have hB := hB.2 c
        refine E_goto (tgt := 73) dX5_readShapeTerms_57 (by decide) ?_
        refine E_sub (lv' := [(0, .ref 4)]) [0] rfl ?_
        exact EvI.tr hB hE1
    · have hB := hB.2 c
      refine E_iload 4 dX5_readShapeTerms_42 rfl ?_
      exact E_iret rfl dX5_readShapeTerms_44 ⟨_, rfl, rfl, hB⟩

set_option maxRecDepth 20000 in
set_option maxHeartbeats 2000000 in
theorem kX5_readShapeTerms_73 {K : KT} {G : St} {Q : Int32 → St → Prop}  (hL : Lay G.2.2) 
    (hB : EvI K mX5_faultHere 0 0 [(0, .ref 4), (1, .int 1)] [] G (fun r1 G1 => Q r1 G1)) :
    EvI K mX5_readShapeTerms 4 73 [(0, .ref 4)] [] G Q := by
  refine E_aload_n 0 dX5_readShapeTerms_73 rfl rfl rfl ?_
  refine E_iconst (v := 1) dX5_readShapeTerms_74 (by decide) ?_
  refine E_cV (ci := 5) (as := [.int 1]) (st := []) cm_X5_faultHere cV_X5_61 ⟨_, _, rfl⟩ (by decide) (lo_4 hL) rfl rfl (by decide) (Nat.le_of_ble_eq_true rfl) (Nat.le_of_ble_eq_true rfl) dX5_readShapeTerms_75 hB (fun r G1 hr => ?_)
  obtain ⟨r1, rfl, hE1, hB⟩ := hr
  have hL1 : Lay G1.2.2 := by rw [hE1]; exact hL
  have hE1 : G1.2.2 = G.2.2 := hE1
  show Ev K mX5_readShapeTerms 4 78 [(0, .ref 4)] [.int r1] G1 _
  exact E_iret rfl dX5_readShapeTerms_78 ⟨_, rfl, hE1, hB⟩

set_option maxRecDepth 20000 in
set_option maxHeartbeats 2000000 in
theorem kX5_readQuestion_0 {K : KT} {G : St} {Q : Int32 → St → Prop} {h1 : Nat} {t2 : Nat} (hL : Lay G.2.2) (hh1 : h1 = 39 ∨ h1 = 49) (ht2 : t2 = 59 ∨ t2 = 62)
    (hB : EvV K mX8_clear 0 0 [(0, .ref t2)] [] G (fun G1 => EvV K mX7_rewind 3 0 [(0, .ref 2)] [] G1 (fun G2 => EvI K mX5_readShapeRows 4 0 [(0, .ref 4), (1, .ref h1)] [] (uI G2 4 1 0) (fun r3 G3 => ((r3 = 0 → EvI K mX5_readShapeTerms 4 0 [(0, .ref 4), (1, .ref h1), (2, .ref t2)] [] G3 (fun r4 G4 => Q r4 G4)) ∧ (¬ r3 = 0 → Q r3 G3)))))) :
    EvI K mX5_readQuestion 5 0 [(0, .ref 4), (1, .ref h1), (2, .ref t2)] [] G Q := by
  refine E_aload_n 2 dX5_readQuestion_0 rfl rfl rfl ?_
  refine E_cV (ci := 8) (as := []) (st := []) cm_X8_clear cV_X5_36 ⟨_, _, rfl⟩ (by decide) (ltO hL ht2) rfl rfl (by decide) (Nat.le_of_ble_eq_true rfl) (Nat.le_of_ble_eq_true rfl) dX5_readQuestion_1 hB (fun r G1 hr => ?_)
  obtain ⟨rfl, hE1, hB⟩ := hr
  have hL1 : Lay G1.2.2 := by rw [hE1]; exact hL
  have hE1 : G1.2.2 = G.2.2 := hE1
  show Ev K mX5_readQuestion 5 4 [(0, .ref 4), (1, .ref h1), (2, .ref t2)] [] G1 _
  refine E_aload_n 0 dX5_readQuestion_4 rfl rfl rfl ?_
  refine E_gR (j := 2) fG_X5_9 rfl (lo_4 hL1) (lr_4_0 hL1) (by decide) dX5_readQuestion_5 ?_
  refine E_cV (ci := 7) (as := []) (st := []) cm_X7_rewind cV_X5_20 ⟨_, _, rfl⟩ (by decide) (lo_2 hL1) rfl rfl (by decide) (Nat.le_of_ble_eq_true rfl) (Nat.le_of_ble_eq_true rfl) dX5_readQuestion_8 hB (fun r G2 hr => ?_)
  obtain ⟨rfl, hE2, hB⟩ := hr
  have hL2 : Lay G2.2.2 := by rw [hE2]; exact hL1
  have hE2 : G2.2.2 = G.2.2 := hE2.trans hE1
  show Ev K mX5_readQuestion 5 11 [(0, .ref 4), (1, .ref h1), (2, .ref t2)] [] G2 _
  refine E_aload_n 0 dX5_readQuestion_11 rfl rfl rfl ?_
  refine E_iconst (v := 0) dX5_readQuestion_12 (by decide) ?_
  refine E_pI fP_X5_43 rfl (lo_4 hL2) dX5_readQuestion_13 ?_
  refine E_aload_n 0 dX5_readQuestion_16 rfl rfl rfl ?_
  refine E_aload_n 1 dX5_readQuestion_17 rfl rfl rfl ?_
  refine E_cV (ci := 5) (as := [.ref h1]) (st := []) cm_X5_readShapeRows cV_X5_46 ⟨_, _, rfl⟩ (by decide) (lo_4 hL2) rfl rfl (by decide) (Nat.le_of_ble_eq_true rfl) (Nat.le_of_ble_eq_true rfl) dX5_readQuestion_18 hB (fun r G3 hr => ?_)
  obtain ⟨r3, rfl, hE3, hB⟩ := hr
  have hL3 : Lay G3.2.2 := by rw [hE3]; exact hL2
  have hE3 : G3.2.2 = G.2.2 := hE3.trans hE2
  show Ev K mX5_readQuestion 5 21 [(0, .ref 4), (1, .ref h1), (2, .ref t2)] [.int r3] G3 _
  refine E_istore_n (lv' := [(0, .ref 4), (1, .ref h1), (2, .ref t2), (3, .int r3)]) dX5_readQuestion_21 rfl (by decide) rfl ?_
  refine E_iload_n 3 dX5_readQuestion_22 rfl rfl ?_
  refine E_if_eq (tgt := 30) dX5_readQuestion_23 (by decide) (fun c => ?_) (fun c => ?_)
  · have hB := hB.1 c
    refine E_aload_n 0 dX5_readQuestion_30 rfl rfl rfl ?_
    refine E_aload_n 1 dX5_readQuestion_31 rfl rfl rfl ?_
    refine E_aload_n 2 dX5_readQuestion_32 rfl rfl rfl ?_
    refine E_cV (ci := 5) (as := [.ref h1, .ref t2]) (st := []) cm_X5_readShapeTerms cV_X5_49 ⟨_, _, rfl⟩ (by decide) (lo_4 hL3) rfl rfl (by decide) (Nat.le_of_ble_eq_true rfl) (Nat.le_of_ble_eq_true rfl) dX5_readQuestion_33 hB (fun r G4 hr => ?_)
    obtain ⟨r4, rfl, hE4, hB⟩ := hr
    have hL4 : Lay G4.2.2 := by rw [hE4]; exact hL3
    have hE4 : G4.2.2 = G.2.2 := hE4.trans hE3
    show Ev K mX5_readQuestion 5 36 [(0, .ref 4), (1, .ref h1), (2, .ref t2), (3, .int r3)] [.int r4] G4 _
    exact E_iret rfl dX5_readQuestion_36 ⟨_, rfl, hE4, hB⟩
  · have hB := hB.2 c
    refine E_iload_n 3 dX5_readQuestion_26 rfl rfl ?_
    refine E_goto (tgt := 36) dX5_readQuestion_27 (by decide) ?_
    exact E_iret rfl dX5_readQuestion_36 ⟨_, rfl, hE3, hB⟩

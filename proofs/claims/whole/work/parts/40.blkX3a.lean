set_option maxRecDepth 20000 in
set_option maxHeartbeats 2000000 in
theorem kX3_weigh_0 {K : KT} {G : St} {Q : St → Prop} {h1 : Nat} {y3 : Int64} {x5 : Int32} {x6 : Int32} (hL : Lay G.2.2) (hh1 : h1 = 39 ∨ h1 = 49)
    (hB : EvV K mX3_weigh 3 6 [(0, .ref 38), (1, .ref h1), (2, .ref 18), (3, .long y3), (5, .int x5), (6, .int x6), (7, .int 0), (8, .int 0)] [] G Q) :
    EvV K mX3_weigh 3 0 [(0, .ref 38), (1, .ref h1), (2, .ref 18), (3, .long y3), (5, .int x5), (6, .int x6)] [] G Q := by
  refine E_iconst (v := 0) dX3_weigh_0 (by decide) ?_
  refine E_istore (lv' := [(0, .ref 38), (1, .ref h1), (2, .ref 18), (3, .long y3), (5, .int x5), (6, .int x6), (7, .int 0)]) dX3_weigh_1 (by decide) rfl ?_
  refine E_iconst (v := 0) dX3_weigh_3 (by decide) ?_
  refine E_istore (lv' := [(0, .ref 38), (1, .ref h1), (2, .ref 18), (3, .long y3), (5, .int x5), (6, .int x6), (7, .int 0), (8, .int 0)]) dX3_weigh_4 (by decide) rfl ?_
  exact EvV.tr hB rfl

set_option maxRecDepth 20000 in
set_option maxHeartbeats 2000000 in
theorem kX3_weigh_6 {K : KT} {G : St} {Q : St → Prop} {h1 : Nat} {y3 : Int64} {x5 : Int32} {x6 : Int32} {x7 : Int32} {x8 : Int32} (hL : Lay G.2.2) (hh1 : h1 = 39 ∨ h1 = 49)
    (hB : (((sI G h1 10) ≤ x8 → EvI K mJ6_numberOfTrailingZeros_0f7a4 0 0 [(0, .int x7)] [] G (fun r1 G1 => ((r1 = x5 → EvI K mX6_greaterPart 2 0 [(0, .ref 18), (1, .int x7)] [] G1 (fun r2 G2 => (((sL G2 38 0) = 0 → EvV K mX3_weigh 3 116 [(0, .ref 38), (3, .long y3), (8, .int r2)] [.int 1] G2 Q) ∧ (¬ (sL G2 38 0) = 0 → ((r2 < (sI G2 38 1) → EvV K mX3_weigh 3 116 [(0, .ref 38), (3, .long y3), (8, .int r2)] [.int 1] G2 Q) ∧ (¬ r2 < (sI G2 38 1) → ((¬ r2 = (sI G2 38 1) → EvV K mX3_weigh 3 115 [(0, .ref 38), (3, .long y3), (8, .int r2)] [] G2 Q) ∧ (r2 = (sI G2 38 1) → EvL K mX10_orderOf 1 0 [(0, .long y3)] [] G2 (fun r3 G3 => EvL K mX10_orderOf 1 0 [(0, .long (sL G3 38 0))] [] G3 (fun r4 G4 => ((¬ r3 < r4 → EvV K mX3_weigh 3 115 [(0, .ref 38), (3, .long y3), (8, .int r2)] [] G4 Q) ∧ (r3 < r4 → EvV K mX3_weigh 3 116 [(0, .ref 38), (3, .long y3), (8, .int r2)] [.int 1] G4 Q)))))))))))) ∧ (¬ r1 = x5 → Q G1)))) ∧ (¬ (sI G h1 10) ≤ x8 → ((((x6 >>> (x8 &&& 31)) &&& 1) = 0 → EvV K mX3_weigh 3 44 [(0, .ref 38), (1, .ref h1), (2, .ref 18), (3, .long y3), (5, .int x5), (6, .int x6), (7, .int x7), (8, .int x8)] [] G Q) ∧ (¬ ((x6 >>> (x8 &&& 31)) &&& 1) = 0 → EvI K mX1_hasWord 2 0 [(0, .ref h1), (1, .int x8), (2, .long y3)] [] G (fun r5 G5 => ((r5 = 0 → EvV K mX3_weigh 3 44 [(0, .ref 38), (1, .ref h1), (2, .ref 18), (3, .long y3), (5, .int x5), (6, .int x6), (7, .int x7), (8, .int x8)] [] G5 Q) ∧ (¬ r5 = 0 → EvV K mX3_weigh 3 44 [(0, .ref 38), (1, .ref h1), (2, .ref 18), (3, .long y3), (5, .int x5), (6, .int x6), (7, .int (x7 ||| (1 <<< (x8 &&& 31)))), (8, .int x8)] [] G5 Q)))))))) :
    EvV K mX3_weigh 3 6 [(0, .ref 38), (1, .ref h1), (2, .ref 18), (3, .long y3), (5, .int x5), (6, .int x6), (7, .int x7), (8, .int x8)] [] G Q := by
  refine E_iload 7 dX3_weigh_6 rfl ?_
  refine E_aload_n 1 dX3_weigh_8 rfl rfl rfl ?_
  refine E_gI (v := sI G h1 10) fG_X3_23 rfl (lhO hL hh1) rfl dX3_weigh_9 ?_
  refine E_icmp_ge (tgt := 50) dX3_weigh_12 (by decide) (fun c => ?_) (fun c => ?_)
  · have hB := hB.1 c
    refine E_iload 6 dX3_weigh_50 rfl ?_
    refine E_callS (as := [.int x7]) (st := []) cm_J6_numberOfTrailingZeros_0f7a4 cS_X3_46 rfl rfl (by decide) (Nat.le_of_ble_eq_true rfl) (Nat.le_of_ble_eq_true rfl) dX3_weigh_52 hB (fun r G1 hr => ?_)
    obtain ⟨r1, rfl, hE1, hB⟩ := hr
    have hL1 : Lay G1.2.2 := by rw [hE1]; exact hL
    have hE1 : G1.2.2 = G.2.2 := hE1
    show Ev K mX3_weigh 3 55 [(0, .ref 38), (1, .ref h1), (2, .ref 18), (3, .long y3), (5, .int x5), (6, .int x6), (7, .int x7), (8, .int x8)] [.int r1] G1 _
    refine E_iload 4 dX3_weigh_55 rfl ?_
    refine E_icmp_eq (tgt := 61) dX3_weigh_57 (by decide) (fun c => ?_) (fun c => ?_)
    · have hB := hB.1 c
      refine E_aload_n 2 dX3_weigh_61 rfl rfl rfl ?_
      refine E_iload 6 dX3_weigh_62 rfl ?_
      refine E_cV (ci := 6) (as := [.int x7]) (st := []) cm_X6_greaterPart cV_X3_52 ⟨_, _, rfl⟩ (by decide) (lo_18 hL1) rfl rfl (by decide) (Nat.le_of_ble_eq_true rfl) (Nat.le_of_ble_eq_true rfl) dX3_weigh_64 hB (fun r G2 hr => ?_)
      obtain ⟨r2, rfl, hE2, hB⟩ := hr
      have hL2 : Lay G2.2.2 := by rw [hE2]; exact hL1
      have hE2 : G2.2.2 = G.2.2 := hE2.trans hE1
      show Ev K mX3_weigh 3 67 [(0, .ref 38), (1, .ref h1), (2, .ref 18), (3, .long y3), (5, .int x5), (6, .int x6), (7, .int x7), (8, .int x8)] [.int r2] G2 _
      refine E_istore (lv' := [(0, .ref 38), (1, .ref h1), (2, .ref 18), (3, .long y3), (5, .int x5), (6, .int x6), (7, .int x7), (8, .int r2)]) dX3_weigh_67 (by decide) rfl ?_
      refine E_aload_n 0 dX3_weigh_69 rfl rfl rfl ?_
      refine E_gL (v := sL G2 38 0) fG_X3_7 rfl (lo_38 hL2) rfl dX3_weigh_70 ?_
      refine E_lconst (v := 0) dX3_weigh_73 (by decide) ?_
      refine E_lcmp dX3_weigh_74 ?_
      refine E_if_eq (tgt := 111) dX3_weigh_75 (by decide) (fun c => ?_) (fun c => ?_)
      · have hB := hB.1 ((lgc_eq (sL G2 38 0) 0).mp c)
        refine E_iconst (v := 1) dX3_weigh_111 (by decide) ?_
        refine E_goto (tgt := 116) dX3_weigh_112 (by decide) ?_
        refine E_sub (lv' := [(0, .ref 38), (3, .long y3), (8, .int r2)]) [0, 3, 7] rfl ?_
        exact EvV.tr hB hE2
      · have hB := hB.2 (fun q => c ((lgc_eq (sL G2 38 0) 0).mpr q))
        refine E_iload 7 dX3_weigh_78 rfl ?_
        refine E_aload_n 0 dX3_weigh_80 rfl rfl rfl ?_
        refine E_gI (v := sI G2 38 1) fG_X3_13 rfl (lo_38 hL2) rfl dX3_weigh_81 ?_
        refine E_icmp_lt (tgt := 111) dX3_weigh_84 (by decide) (fun c => ?_) (fun c => ?_)
        · have hB := hB.1 c
          refine E_iconst (v := 1) dX3_weigh_111 (by decide) ?_
          refine E_goto (tgt := 116) dX3_weigh_112 (by decide) ?_
          refine E_sub (lv' := [(0, .ref 38), (3, .long y3), (8, .int r2)]) [0, 3, 7] rfl ?_
          exact EvV.tr hB hE2
        · have hB := hB.2 c
          refine E_iload 7 dX3_weigh_87 rfl ?_
          refine E_aload_n 0 dX3_weigh_89 rfl rfl rfl ?_
          refine E_gI (v := sI G2 38 1) fG_X3_13 rfl (lo_38 hL2) rfl dX3_weigh_90 ?_
          refine E_icmp_ne (tgt := 115) dX3_weigh_93 (by decide) (fun c => ?_) (fun c => ?_)
          · have hB := hB.1 c
            refine E_sub (lv' := [(0, .ref 38), (3, .long y3), (8, .int r2)]) [0, 3, 7] rfl ?_
            exact EvV.tr hB hE2
          · have hB := hB.2 c
            refine E_lload_n 3 dX3_weigh_96 rfl rfl ?_
            refine E_callS (as := [.long y3]) (st := []) cm_X10_orderOf cS_X3_55 rfl rfl (by decide) (Nat.le_of_ble_eq_true rfl) (Nat.le_of_ble_eq_true rfl) dX3_weigh_97 hB (fun r G3 hr => ?_)
            obtain ⟨r3, rfl, hE3, hB⟩ := hr
            have hL3 : Lay G3.2.2 := by rw [hE3]; exact hL2
            have hE3 : G3.2.2 = G.2.2 := hE3.trans hE2
            show Ev K mX3_weigh 3 100 [(0, .ref 38), (1, .ref h1), (2, .ref 18), (3, .long y3), (5, .int x5), (6, .int x6), (7, .int x7), (8, .int r2)] [.long r3] G3 _
            refine E_aload_n 0 dX3_weigh_100 rfl rfl rfl ?_
            refine E_gL (v := sL G3 38 0) fG_X3_7 rfl (lo_38 hL3) rfl dX3_weigh_101 ?_
            refine E_callS (as := [.long (sL G3 38 0)]) (st := [.long r3]) cm_X10_orderOf cS_X3_55 rfl rfl (by decide) (Nat.le_of_ble_eq_true rfl) (Nat.le_of_ble_eq_true rfl) dX3_weigh_104 hB (fun r G4 hr => ?_)
            obtain ⟨r4, rfl, hE4, hB⟩ := hr
            have hL4 : Lay G4.2.2 := by rw [hE4]; exact hL3
            have hE4 : G4.2.2 = G.2.2 := hE4.trans hE3
            show Ev K mX3_weigh 3 107 [(0, .ref 38), (1, .ref h1), (2, .ref 18), (3, .long y3), (5, .int x5), (6, .int x6), (7, .int x7), (8, .int r2)] [.long r4, .long r3] G4 _
            refine E_lcmp dX3_weigh_107 ?_
            refine E_if_ge (tgt := 115) dX3_weigh_108 (by decide) (fun c => ?_) (fun c => ?_)
            · have hB := hB.1 ((fun q => absurd ((lgc_lt r3 r4).mpr q) (Int32.not_lt.mpr c)))
              refine E_sub (lv' := [(0, .ref 38), (3, .long y3), (8, .int r2)]) [0, 3, 7] rfl ?_
              exact EvV.tr hB hE4
            · have hB := hB.2 ((lgc_lt r3 r4).mp (Int32.not_le.mp c))
              refine E_iconst (v := 1) dX3_weigh_111 (by decide) ?_
              refine E_goto (tgt := 116) dX3_weigh_112 (by decide) ?_
              refine E_sub (lv' := [(0, .ref 38), (3, .long y3), (8, .int r2)]) [0, 3, 7] rfl ?_
              exact EvV.tr hB hE4
    · have hB := hB.2 c
      exact E_vret rfl dX3_weigh_60 ⟨rfl, hE1, hB⟩
  · have hB := hB.2 c
    refine E_iload 5 dX3_weigh_15 rfl ?_
    refine E_iload 7 dX3_weigh_17 rfl ?_
    refine E_ishr dX3_weigh_19 ?_
    refine E_iconst (v := 1) dX3_weigh_20 (by decide) ?_
    refine E_iand dX3_weigh_21 ?_
    refine E_if_eq (tgt := 44) dX3_weigh_22 (by decide) (fun c => ?_) (fun c => ?_)
    · have hB := hB.1 c
      exact EvV.tr hB rfl
    · have hB := hB.2 c
      refine E_aload_n 1 dX3_weigh_25 rfl rfl rfl ?_
      refine E_iload 7 dX3_weigh_26 rfl ?_
      refine E_lload_n 3 dX3_weigh_28 rfl rfl ?_
      refine E_cV (ci := 1) (as := [.int x8, .long y3]) (st := []) cm_X1_hasWord cV_X3_42 ⟨_, _, rfl⟩ (by decide) (lhO hL hh1) rfl rfl (by decide) (Nat.le_of_ble_eq_true rfl) (Nat.le_of_ble_eq_true rfl) dX3_weigh_29 hB (fun r G5 hr => ?_)
      obtain ⟨r5, rfl, hE5, hB⟩ := hr
      have hL5 : Lay G5.2.2 := by rw [hE5]; exact hL
      have hE5 : G5.2.2 = G.2.2 := hE5
      show Ev K mX3_weigh 3 32 [(0, .ref 38), (1, .ref h1), (2, .ref 18), (3, .long y3), (5, .int x5), (6, .int x6), (7, .int x7), (8, .int x8)] [.int r5] G5 _
      refine E_if_eq (tgt := 44) dX3_weigh_32 (by decide) (fun c => ?_) (fun c => ?_)
      · have hB := hB.1 c
        exact EvV.tr hB hE5
      · have hB := hB.2 c
        refine E_iload 6 dX3_weigh_35 rfl ?_
        refine E_iconst (v := 1) dX3_weigh_37 (by decide) ?_
        refine E_iload 7 dX3_weigh_38 rfl ?_
        refine E_ishl dX3_weigh_40 ?_
        refine E_ior dX3_weigh_41 ?_
        refine E_istore (lv' := [(0, .ref 38), (1, .ref h1), (2, .ref 18), (3, .long y3), (5, .int x5), (6, .int x6), (7, .int (x7 ||| (1 <<< (x8 &&& 31)))), (8, .int x8)]) dX3_weigh_42 (by decide) rfl ?_
        exact EvV.tr hB hE5

set_option maxRecDepth 20000 in
set_option maxHeartbeats 2000000 in
theorem kX3_weigh_44 {K : KT} {G : St} {Q : St → Prop} {h1 : Nat} {y3 : Int64} {x5 : Int32} {x6 : Int32} {x7 : Int32} {x8 : Int32} (hL : Lay G.2.2) (hh1 : h1 = 39 ∨ h1 = 49)
    (hB : EvV K mX3_weigh 3 6 [(0, .ref 38), (1, .ref h1), (2, .ref 18), (3, .long y3), (5, .int x5), (6, .int x6), (7, .int x7), (8, .int (x8 + 1))] [] G Q) :
    EvV K mX3_weigh 3 44 [(0, .ref 38), (1, .ref h1), (2, .ref 18), (3, .long y3), (5, .int x5), (6, .int x6), (7, .int x7), (8, .int x8)] [] G Q := by
  refine E_iinc (v := x8 + 1) (lv' := [(0, .ref 38), (1, .ref h1), (2, .ref 18), (3, .long y3), (5, .int x5), (6, .int x6), (7, .int x7), (8, .int (x8 + 1))]) 7 dX3_weigh_44 rfl rfl (by decide) rfl ?_
  refine E_goto (tgt := 6) dX3_weigh_47 (by decide) ?_
  exact EvV.tr hB rfl

set_option maxRecDepth 20000 in
set_option maxHeartbeats 2000000 in
theorem kX3_weigh_115 {K : KT} {G : St} {Q : St → Prop} {y3 : Int64} {x8 : Int32} (hL : Lay G.2.2) 
    (hB : EvV K mX3_weigh 3 116 [(0, .ref 38), (3, .long y3), (8, .int x8)] [.int 0] G Q) :
    EvV K mX3_weigh 3 115 [(0, .ref 38), (3, .long y3), (8, .int x8)] [] G Q := by
  refine E_iconst (v := 0) dX3_weigh_115 (by decide) ?_
  exact EvV.tr hB rfl

set_option maxRecDepth 20000 in
set_option maxHeartbeats 2000000 in
theorem kX3_weigh_116 {K : KT} {G : St} {Q : St → Prop} {y3 : Int64} {x8 : Int32} {xs0 : Int32} (hL : Lay G.2.2) 
    (hB : ((xs0 = 0 → Q G) ∧ (¬ xs0 = 0 → Q (uI (uL G 38 0 y3) 38 1 x8)))) :
    EvV K mX3_weigh 3 116 [(0, .ref 38), (3, .long y3), (8, .int x8)] [.int xs0] G Q := by
  refine E_istore (lv' := [(0, .ref 38), (3, .long y3), (8, .int x8), (9, .int xs0)]) dX3_weigh_116 (by decide) rfl ?_
  refine E_iload 3 dX3_weigh_118 rfl ?_
  refine E_if_eq (tgt := 134) dX3_weigh_120 (by decide) (fun c => ?_) (fun c => ?_)
  · have hB := hB.1 c
    exact E_vret rfl dX3_weigh_134 ⟨rfl, rfl, hB⟩
  · have hB := hB.2 c
    refine E_aload_n 0 dX3_weigh_123 rfl rfl rfl ?_
    refine E_lload_n 1 dX3_weigh_124 rfl rfl ?_
    refine E_pL fP_X3_7 rfl (lo_38 hL) dX3_weigh_125 ?_
    refine E_aload_n 0 dX3_weigh_128 rfl rfl rfl ?_
    refine E_iload 2 dX3_weigh_129 rfl ?_
    refine E_pI fP_X3_13 rfl (lo_38 hL) dX3_weigh_131 ?_
    exact E_vret rfl dX3_weigh_134 ⟨rfl, rfl, hB⟩

set_option maxRecDepth 20000 in
set_option maxHeartbeats 2000000 in
theorem kX3_find_0 {K : KT} {G : St} {Q : St → Prop} {h1 : Nat} {t2 : Nat} (hL : Lay G.2.2) (hh1 : h1 = 39 ∨ h1 = 49) (ht2 : t2 = 59 ∨ t2 = 62)
    (hB : EvI K mX6_rowsOfAll 2 0 [(0, .ref 18)] [] (uI (uL G 38 0 0) 38 1 0) (fun r1 G1 => EvV K mX3_find 4 19 [(0, .ref 38), (1, .ref h1), (2, .ref t2), (3, .ref 18), (4, .int r1), (5, .int 0)] [] G1 Q)) :
    EvV K mX3_find 4 0 [(0, .ref 38), (1, .ref h1), (2, .ref t2), (3, .ref 18)] [] G Q := by
  refine E_aload_n 0 dX3_find_0 rfl rfl rfl ?_
  refine E_lconst (v := 0) dX3_find_1 (by decide) ?_
  refine E_pL fP_X3_7 rfl (lo_38 hL) dX3_find_2 ?_
  refine E_aload_n 0 dX3_find_5 rfl rfl rfl ?_
  refine E_iconst (v := 0) dX3_find_6 (by decide) ?_
  refine E_pI fP_X3_13 rfl (lo_38 hL) dX3_find_7 ?_
  refine E_aload_n 3 dX3_find_10 rfl rfl rfl ?_
  refine E_cV (ci := 6) (as := []) (st := []) cm_X6_rowsOfAll cV_X3_17 ⟨_, _, rfl⟩ (by decide) (lo_18 hL) rfl rfl (by decide) (Nat.le_of_ble_eq_true rfl) (Nat.le_of_ble_eq_true rfl) dX3_find_11 hB (fun r G1 hr => ?_)
  obtain ⟨r1, rfl, hE1, hB⟩ := hr
  have hL1 : Lay G1.2.2 := by rw [hE1]; exact hL
  have hE1 : G1.2.2 = G.2.2 := hE1
  show Ev K mX3_find 4 14 [(0, .ref 38), (1, .ref h1), (2, .ref t2), (3, .ref 18)] [.int r1] G1 _
  refine E_istore (lv' := [(0, .ref 38), (1, .ref h1), (2, .ref t2), (3, .ref 18), (4, .int r1)]) dX3_find_14 (by decide) rfl ?_
  refine E_iconst (v := 0) dX3_find_16 (by decide) ?_
  refine E_istore (lv' := [(0, .ref 38), (1, .ref h1), (2, .ref t2), (3, .ref 18), (4, .int r1), (5, .int 0)]) dX3_find_17 (by decide) rfl ?_
  exact EvV.tr hB hE1

set_option maxRecDepth 20000 in
set_option maxHeartbeats 2000000 in
theorem kX3_find_19 {K : KT} {G : St} {Q : St → Prop} {h1 : Nat} {t2 : Nat} {x4 : Int32} {x5 : Int32} (hL : Lay G.2.2) (hh1 : h1 = 39 ∨ h1 = 49) (ht2 : t2 = 59 ∨ t2 = 62)
    (hB : (((sI G h1 10) ≤ x5 → Q G) ∧ (¬ (sI G h1 10) ≤ x5 → EvV K mX3_find 4 31 [(0, .ref 38), (1, .ref h1), (2, .ref t2), (3, .ref 18), (4, .int x4), (5, .int x5), (6, .int 0)] [] G Q))) :
    EvV K mX3_find 4 19 [(0, .ref 38), (1, .ref h1), (2, .ref t2), (3, .ref 18), (4, .int x4), (5, .int x5)] [] G Q := by
  refine E_iload 5 dX3_find_19 rfl ?_
  refine E_aload_n 1 dX3_find_21 rfl rfl rfl ?_
  refine E_gI (v := sI G h1 10) fG_X3_23 rfl (lhO hL hh1) rfl dX3_find_22 ?_
  refine E_icmp_ge (tgt := 97) dX3_find_25 (by decide) (fun c => ?_) (fun c => ?_)
  · have hB := hB.1 c
    exact E_vret rfl dX3_find_97 ⟨rfl, rfl, hB⟩
  · have hB := hB.2 c
    refine E_iconst (v := 0) dX3_find_28 (by decide) ?_
    refine E_istore (lv' := [(0, .ref 38), (1, .ref h1), (2, .ref t2), (3, .ref 18), (4, .int x4), (5, .int x5), (6, .int 0)]) dX3_find_29 (by decide) rfl ?_
    exact EvV.tr hB rfl

set_option maxRecDepth 20000 in
set_option maxHeartbeats 2000000 in
theorem kX3_find_31 {K : KT} {G : St} {Q : St → Prop} {h1 : Nat} {t2 : Nat} {x4 : Int32} {x5 : Int32} {x6 : Int32} (hL : Lay G.2.2) (hh1 : h1 = 39 ∨ h1 = 49) (ht2 : t2 = 59 ∨ t2 = 62)
    (hB : ((4 ≤ x6 → EvV K mX3_find 4 91 [(0, .ref 38), (1, .ref h1), (2, .ref t2), (3, .ref 18), (4, .int x4), (5, .int x5)] [] G Q) ∧ (¬ 4 ≤ x6 → ((((x4 >>> (x5 &&& 31)) &&& 1) = 0 → EvV K mX3_find 4 91 [(0, .ref 38), (1, .ref h1), (2, .ref t2), (3, .ref 18), (4, .int x4), (5, .int x5)] [] G Q) ∧ (¬ ((x4 >>> (x5 &&& 31)) &&& 1) = 0 → EvL K mX1_wordAt 1 0 [(0, .ref h1), (1, .int x5), (2, .int x6)] [] G (fun r1 G1 => ((r1 = 0 → EvV K mX3_find 4 85 [(0, .ref 38), (1, .ref h1), (2, .ref t2), (3, .ref 18), (4, .int x4), (5, .int x5), (6, .int x6)] [] G1 Q) ∧ (¬ r1 = 0 → EvI K mX8_hasPlainWord 0 0 [(0, .ref t2), (1, .long r1)] [] G1 (fun r2 G2 => ((¬ r2 = 0 → EvV K mX3_find 4 85 [(0, .ref 38), (1, .ref h1), (2, .ref t2), (3, .ref 18), (4, .int x4), (5, .int x5), (6, .int x6)] [] G2 Q) ∧ (r2 = 0 → EvV K mX3_weigh 3 0 [(0, .ref 38), (1, .ref h1), (2, .ref 18), (3, .long r1), (5, .int x5), (6, .int x4)] [] G2 (fun G3 => EvV K mX3_find 4 85 [(0, .ref 38), (1, .ref h1), (2, .ref t2), (3, .ref 18), (4, .int x4), (5, .int x5), (6, .int x6)] [] G3 Q)))))))))))) :
    EvV K mX3_find 4 31 [(0, .ref 38), (1, .ref h1), (2, .ref t2), (3, .ref 18), (4, .int x4), (5, .int x5), (6, .int x6)] [] G Q := by
  refine E_iload 6 dX3_find_31 rfl ?_
  refine E_iconst (v := 4) dX3_find_33 (by decide) ?_
  refine E_icmp_ge (tgt := 91) dX3_find_34 (by decide) (fun c => ?_) (fun c => ?_)
  · have hB := hB.1 c
    refine E_sub (lv' := [(0, .ref 38), (1, .ref h1), (2, .ref t2), (3, .ref 18), (4, .int x4), (5, .int x5)]) [0, 1, 2, 3, 4, 5] rfl ?_
    exact EvV.tr hB rfl
  · have hB := hB.2 c
    refine E_iload 4 dX3_find_37 rfl ?_
    refine E_iload 5 dX3_find_39 rfl ?_
    refine E_ishr dX3_find_41 ?_
    refine E_iconst (v := 1) dX3_find_42 (by decide) ?_
    refine E_iand dX3_find_43 ?_
    refine E_if_eq (tgt := 91) dX3_find_44 (by decide) (fun c => ?_) (fun c => ?_)
    · have hB := hB.1 c
      refine E_sub (lv' := [(0, .ref 38), (1, .ref h1), (2, .ref t2), (3, .ref 18), (4, .int x4), (5, .int x5)]) [0, 1, 2, 3, 4, 5] rfl ?_
      exact EvV.tr hB rfl
    · have hB := hB.2 c
      refine E_aload_n 1 dX3_find_47 rfl rfl rfl ?_
      refine E_iload 5 dX3_find_48 rfl ?_
      refine E_iload 6 dX3_find_50 rfl ?_
      refine E_cV (ci := 1) (as := [.int x5, .int x6]) (st := []) cm_X1_wordAt cV_X3_28 ⟨_, _, rfl⟩ (by decide) (lhO hL hh1) rfl rfl (by decide) (Nat.le_of_ble_eq_true rfl) (Nat.le_of_ble_eq_true rfl) dX3_find_52 hB (fun r G1 hr => ?_)
      obtain ⟨r1, rfl, hE1, hB⟩ := hr
      have hL1 : Lay G1.2.2 := by rw [hE1]; exact hL
      have hE1 : G1.2.2 = G.2.2 := hE1
      show Ev K mX3_find 4 55 [(0, .ref 38), (1, .ref h1), (2, .ref t2), (3, .ref 18), (4, .int x4), (5, .int x5), (6, .int x6)] [.long r1] G1 _
      refine E_lstore (lv' := [(0, .ref 38), (1, .ref h1), (2, .ref t2), (3, .ref 18), (4, .int x4), (5, .int x5), (6, .int x6), (7, .long r1)]) dX3_find_55 (by decide) rfl ?_
      refine E_lload 7 dX3_find_57 rfl ?_
      refine E_lconst (v := 0) dX3_find_59 (by decide) ?_
      refine E_lcmp dX3_find_60 ?_
      refine E_if_eq (tgt := 85) dX3_find_61 (by decide) (fun c => ?_) (fun c => ?_)
      · have hB := hB.1 ((lgc_eq r1 0).mp c)
        refine E_sub (lv' := [(0, .ref 38), (1, .ref h1), (2, .ref t2), (3, .ref 18), (4, .int x4), (5, .int x5), (6, .int x6)]) [0, 1, 2, 3, 4, 5, 6] rfl ?_
        exact EvV.tr hB hE1
      · have hB := hB.2 (fun q => c ((lgc_eq r1 0).mpr q))
        refine E_aload_n 2 dX3_find_64 rfl rfl rfl ?_
        refine E_lload 7 dX3_find_65 rfl ?_
        refine E_cV (ci := 8) (as := [.long r1]) (st := []) cm_X8_hasPlainWord cV_X3_32 ⟨_, _, rfl⟩ (by decide) (ltO hL1 ht2) rfl rfl (by decide) (Nat.le_of_ble_eq_true rfl) (Nat.le_of_ble_eq_true rfl) dX3_find_67 hB (fun r G2 hr => ?_)
        obtain ⟨r2, rfl, hE2, hB⟩ := hr
        have hL2 : Lay G2.2.2 := by rw [hE2]; exact hL1
        have hE2 : G2.2.2 = G.2.2 := hE2.trans hE1
        show Ev K mX3_find 4 70 [(0, .ref 38), (1, .ref h1), (2, .ref t2), (3, .ref 18), (4, .int x4), (5, .int x5), (6, .int x6), (7, .long r1)] [.int r2] G2 _
        refine E_if_ne (tgt := 85) dX3_find_70 (by decide) (fun c => ?_) (fun c => ?_)
        · have hB := hB.1 c
          refine E_sub (lv' := [(0, .ref 38), (1, .ref h1), (2, .ref t2), (3, .ref 18), (4, .int x4), (5, .int x5), (6, .int x6)]) [0, 1, 2, 3, 4, 5, 6] rfl ?_
          exact EvV.tr hB hE2
        · have hB := hB.2 c
          refine E_aload_n 0 dX3_find_73 rfl rfl rfl ?_
          refine E_aload_n 1 dX3_find_74 rfl rfl rfl ?_
          refine E_aload_n 3 dX3_find_75 rfl rfl rfl ?_
          refine E_lload 7 dX3_find_76 rfl ?_
          refine E_iload 5 dX3_find_78 rfl ?_
          refine E_iload 4 dX3_find_80 rfl ?_
          refine E_cV (ci := 3) (as := [.ref h1, .ref 18, .long r1, .int x5, .int x4]) (st := []) cm_X3_weigh cV_X3_38 ⟨_, _, rfl⟩ (by decide) (lo_38 hL2) rfl rfl (by decide) (Nat.le_of_ble_eq_true rfl) (Nat.le_of_ble_eq_true rfl) dX3_find_82 hB (fun r G3 hr => ?_)
          obtain ⟨rfl, hE3, hB⟩ := hr
          have hL3 : Lay G3.2.2 := by rw [hE3]; exact hL2
          have hE3 : G3.2.2 = G.2.2 := hE3.trans hE2
          show Ev K mX3_find 4 85 [(0, .ref 38), (1, .ref h1), (2, .ref t2), (3, .ref 18), (4, .int x4), (5, .int x5), (6, .int x6), (7, .long r1)] [] G3 _
          refine E_sub (lv' := [(0, .ref 38), (1, .ref h1), (2, .ref t2), (3, .ref 18), (4, .int x4), (5, .int x5), (6, .int x6)]) [0, 1, 2, 3, 4, 5, 6] rfl ?_
          exact EvV.tr hB hE3

set_option maxRecDepth 20000 in
set_option maxHeartbeats 2000000 in
theorem kX3_find_85 {K : KT} {G : St} {Q : St → Prop} {h1 : Nat} {t2 : Nat} {x4 : Int32} {x5 : Int32} {x6 : Int32} (hL : Lay G.2.2) (hh1 : h1 = 39 ∨ h1 = 49) (ht2 : t2 = 59 ∨ t2 = 62)
    (hB : EvV K mX3_find 4 31 [(0, .ref 38), (1, .ref h1), (2, .ref t2), (3, .ref 18), (4, .int x4), (5, .int x5), (6, .int (x6 + 1))] [] G Q) :
    EvV K mX3_find 4 85 [(0, .ref 38), (1, .ref h1), (2, .ref t2), (3, .ref 18), (4, .int x4), (5, .int x5), (6, .int x6)] [] G Q := by
  refine E_iinc (v := x6 + 1) (lv' := [(0, .ref 38), (1, .ref h1), (2, .ref t2), (3, .ref 18), (4, .int x4), (5, .int x5), (6, .int (x6 + 1))]) 6 dX3_find_85 rfl rfl (by decide) rfl ?_
  refine E_goto (tgt := 31) dX3_find_88 (by decide) ?_
  exact EvV.tr hB rfl

set_option maxRecDepth 20000 in
set_option maxHeartbeats 2000000 in
theorem kX3_find_91 {K : KT} {G : St} {Q : St → Prop} {h1 : Nat} {t2 : Nat} {x4 : Int32} {x5 : Int32} (hL : Lay G.2.2) (hh1 : h1 = 39 ∨ h1 = 49) (ht2 : t2 = 59 ∨ t2 = 62)
    (hB : EvV K mX3_find 4 19 [(0, .ref 38), (1, .ref h1), (2, .ref t2), (3, .ref 18), (4, .int x4), (5, .int (x5 + 1))] [] G Q) :
    EvV K mX3_find 4 91 [(0, .ref 38), (1, .ref h1), (2, .ref t2), (3, .ref 18), (4, .int x4), (5, .int x5)] [] G Q := by
  refine E_iinc (v := x5 + 1) (lv' := [(0, .ref 38), (1, .ref h1), (2, .ref t2), (3, .ref 18), (4, .int x4), (5, .int (x5 + 1))]) 5 dX3_find_91 rfl rfl (by decide) rfl ?_
  refine E_goto (tgt := 19) dX3_find_94 (by decide) ?_
  exact EvV.tr hB rfl

set_option maxRecDepth 20000 in
set_option maxHeartbeats 2000000 in
theorem kX9_priceOf_0 {K : KT} {G : St} {Q : Int32 → St → Prop} {x1 : Int32} {x2 : Int32} (hL : Lay G.2.2) 
    (hB : ((x1 < 0 → EvI K mX9_priceOf 0 24 [(0, .ref 11), (1, .int x1), (2, .int x2)] [] G Q) ∧ (¬ x1 < 0 → ((30 ≤ x1 → EvI K mX9_priceOf 0 24 [(0, .ref 11), (1, .int x1), (2, .int x2)] [] G Q) ∧ (¬ 30 ≤ x1 → ((x2 < 0 → EvI K mX9_priceOf 0 24 [(0, .ref 11), (1, .int x1), (2, .int x2)] [] G Q) ∧ (¬ x2 < 0 → ((30 ≤ x2 → EvI K mX9_priceOf 0 24 [(0, .ref 11), (1, .int x1), (2, .int x2)] [] G Q) ∧ (¬ 30 ≤ x2 → EvI K mX9_priceOf 0 25 [(0, .ref 11), (1, .int x1), (2, .int x2)] [.int 1] G Q))))))))) :
    EvI K mX9_priceOf 0 0 [(0, .ref 11), (1, .int x1), (2, .int x2)] [] G Q := by
  refine E_iload_n 1 dX9_priceOf_0 rfl rfl ?_
  refine E_if_lt (tgt := 24) dX9_priceOf_1 (by decide) (fun c => ?_) (fun c => ?_)
  · have hB := hB.1 c
    exact EvI.tr hB rfl
  · have hB := hB.2 c
    refine E_iload_n 1 dX9_priceOf_4 rfl rfl ?_
    refine E_bipush (v := 30) dX9_priceOf_5 (by decide) ?_
    refine E_icmp_ge (tgt := 24) dX9_priceOf_7 (by decide) (fun c => ?_) (fun c => ?_)
    · have hB := hB.1 c
      exact EvI.tr hB rfl
    · have hB := hB.2 c
      refine E_iload_n 2 dX9_priceOf_10 rfl rfl ?_
      refine E_if_lt (tgt := 24) dX9_priceOf_11 (by decide) (fun c => ?_) (fun c => ?_)
      · have hB := hB.1 c
        exact EvI.tr hB rfl
      · have hB := hB.2 c
        refine E_iload_n 2 dX9_priceOf_14 rfl rfl ?_
        refine E_bipush (v := 30) dX9_priceOf_15 (by decide) ?_
        refine E_icmp_ge (tgt := 24) dX9_priceOf_17 (by decide) (fun c => ?_) (fun c => ?_)
        · have hB := hB.1 c
          exact EvI.tr hB rfl
        · have hB := hB.2 c
          refine E_iconst (v := 1) dX9_priceOf_20 (by decide) ?_
          refine E_goto (tgt := 25) dX9_priceOf_21 (by decide) ?_
          exact EvI.tr hB rfl

set_option maxRecDepth 20000 in
set_option maxHeartbeats 2000000 in
theorem kX9_priceOf_24 {K : KT} {G : St} {Q : Int32 → St → Prop} {x1 : Int32} {x2 : Int32} (hL : Lay G.2.2) 
    (hB : EvI K mX9_priceOf 0 25 [(0, .ref 11), (1, .int x1), (2, .int x2)] [.int 0] G Q) :
    EvI K mX9_priceOf 0 24 [(0, .ref 11), (1, .int x1), (2, .int x2)] [] G Q := by
  refine E_iconst (v := 0) dX9_priceOf_24 (by decide) ?_
  exact EvI.tr hB rfl

set_option maxRecDepth 20000 in
set_option maxHeartbeats 2000000 in
theorem kX9_priceOf_25 {K : KT} {G : St} {Q : Int32 → St → Prop} {x1 : Int32} {x2 : Int32} {xs0 : Int32} (hL : Lay G.2.2) 
    (hB : ((xs0 = 0 → Q 0 G) ∧ (¬ xs0 = 0 → vp_in ((x1 * 30) + x2) 900 ∧ Q (sI G 12 (Int32.toNatClampNeg ((x1 * 30) + x2))) G))) :
    EvI K mX9_priceOf 0 25 [(0, .ref 11), (1, .int x1), (2, .int x2)] [.int xs0] G Q := by
  refine E_istore_n (lv' := [(0, .ref 11), (1, .int x1), (2, .int x2), (3, .int xs0)]) dX9_priceOf_25 rfl (by decide) rfl ?_
  refine E_iload_n 3 dX9_priceOf_26 rfl rfl ?_
  refine E_if_eq (tgt := 44) dX9_priceOf_27 (by decide) (fun c => ?_) (fun c => ?_)
  · have hB := hB.1 c
    refine E_iconst (v := 0) dX9_priceOf_44 (by decide) ?_
    exact E_iret rfl dX9_priceOf_45 ⟨_, rfl, rfl, hB⟩
  · have hB := hB.2 c
    refine E_aload_n 0 dX9_priceOf_30 rfl rfl rfl ?_
    refine E_gR (j := 12) fG_X9_11 rfl (lo_11 hL) (lr_11_0 hL) (by decide) dX9_priceOf_31 ?_
    refine E_iload_n 1 dX9_priceOf_34 rfl rfl ?_
    refine E_bipush (v := 30) dX9_priceOf_35 (by decide) ?_
    refine E_imul dX9_priceOf_37 ?_
    refine E_iload_n 2 dX9_priceOf_38 rfl rfl ?_
    refine E_iadd dX9_priceOf_39 ?_
    obtain ⟨qq1, hB⟩ := hB
    refine E_aI (p := Int32.toNatClampNeg ((x1 * 30) + x2)) (v := sI G 12 (Int32.toNatClampNeg ((x1 * 30) + x2))) (la_12 hL) qq1 rfl rfl dX9_priceOf_40 ?_
    refine E_goto (tgt := 45) dX9_priceOf_41 (by decide) ?_
    exact E_iret rfl dX9_priceOf_45 ⟨_, rfl, rfl, hB⟩

set_option maxRecDepth 20000 in
set_option maxHeartbeats 2000000 in
theorem kX9_add_0 {K : KT} {G : St} {Q : St → Prop} {x1 : Int32} {x2 : Int32} {x3 : Int32} (hL : Lay G.2.2) 
    (hB : EvI K mX9_priceOf 0 0 [(0, .ref 11), (1, .int x1), (2, .int x2)] [] G (fun r1 G1 => ((x1 = x2 → Q G1) ∧ (¬ x1 = x2 → ((r1 = 0 → EvV K mX9_add 1 25 [(0, .ref 11), (1, .int x1), (2, .int x2), (3, .int x3), (4, .int r1)] [] G1 Q) ∧ (¬ r1 = 0 → ((x3 < r1 → EvV K mX9_add 1 25 [(0, .ref 11), (1, .int x1), (2, .int x2), (3, .int x3), (4, .int r1)] [] G1 Q) ∧ (¬ x3 < r1 → Q G1)))))))) :
    EvV K mX9_add 1 0 [(0, .ref 11), (1, .int x1), (2, .int x2), (3, .int x3)] [] G Q := by
  refine E_aload_n 0 dX9_add_0 rfl rfl rfl ?_
  refine E_iload_n 1 dX9_add_1 rfl rfl ?_
  refine E_iload_n 2 dX9_add_2 rfl rfl ?_
  refine E_cV (ci := 9) (as := [.int x1, .int x2]) (st := []) cm_X9_priceOf cV_X9_70 ⟨_, _, rfl⟩ (by decide) (lo_11 hL) rfl rfl (by decide) (Nat.le_of_ble_eq_true rfl) (Nat.le_of_ble_eq_true rfl) dX9_add_3 hB (fun r G1 hr => ?_)
  obtain ⟨r1, rfl, hE1, hB⟩ := hr
  have hL1 : Lay G1.2.2 := by rw [hE1]; exact hL
  have hE1 : G1.2.2 = G.2.2 := hE1
  show Ev K mX9_add 1 6 [(0, .ref 11), (1, .int x1), (2, .int x2), (3, .int x3)] [.int r1] G1 _
  refine E_istore (lv' := [(0, .ref 11), (1, .int x1), (2, .int x2), (3, .int x3), (4, .int r1)]) dX9_add_6 (by decide) rfl ?_
  refine E_iload_n 1 dX9_add_8 rfl rfl ?_
  refine E_iload_n 2 dX9_add_9 rfl rfl ?_
  refine E_icmp_eq (tgt := 24) dX9_add_10 (by decide) (fun c => ?_) (fun c => ?_)
  · have hB := hB.1 c
    exact E_vret rfl dX9_add_24 ⟨rfl, hE1, hB⟩
  · have hB := hB.2 c
    refine E_iload 4 dX9_add_13 rfl ?_
    refine E_if_eq (tgt := 25) dX9_add_15 (by decide) (fun c => ?_) (fun c => ?_)
    · have hB := hB.1 c
      exact EvV.tr hB hE1
    · have hB := hB.2 c
      refine E_iload 4 dX9_add_18 rfl ?_
      refine E_iload_n 3 dX9_add_20 rfl rfl ?_
      refine E_icmp_gt (tgt := 25) dX9_add_21 (by decide) (fun c => ?_) (fun c => ?_)
      · have hB := hB.1 c
        exact EvV.tr hB hE1
      · have hB := hB.2 c
        exact E_vret rfl dX9_add_24 ⟨rfl, hE1, hB⟩

set_option maxRecDepth 20000 in
set_option maxHeartbeats 2000000 in
theorem kX9_add_25 {K : KT} {G : St} {Q : St → Prop} {x1 : Int32} {x2 : Int32} {x3 : Int32} {x4 : Int32} (hL : Lay G.2.2) 
    (hB : vp_in ((x1 * 30) + x2) 900 ∧ vp_in ((x2 * 30) + x1) 900 ∧ vp_in x1 30 ∧ vp_in x1 30 ∧ vp_in x2 30 ∧ ∀ v6 : Int32, v6 = sI (uI (uI (uI G 12 (Int32.toNatClampNeg ((x1 * 30) + x2)) x3) 12 (Int32.toNatClampNeg ((x2 * 30) + x1)) x3) 13 (Int32.toNatClampNeg x1) ((sI G 13 (Int32.toNatClampNeg x1)) ||| (1 <<< (x2 &&& 31)))) 13 (Int32.toNatClampNeg x2) → vp_in x2 30 ∧ ∀ G8 : St, G8 = (uI (uI (uI (uI G 12 (Int32.toNatClampNeg ((x1 * 30) + x2)) x3) 12 (Int32.toNatClampNeg ((x2 * 30) + x1)) x3) 13 (Int32.toNatClampNeg x1) ((sI G 13 (Int32.toNatClampNeg x1)) ||| (1 <<< (x2 &&& 31)))) 13 (Int32.toNatClampNeg x2) (v6 ||| (1 <<< (x1 &&& 31)))) → ((¬ x4 = 0 → EvV K mX9_add 1 88 [(0, .ref 11), (3, .int x3)] [.int 0, .int (sI G8 11 2), .ref 11] G8 Q) ∧ (x4 = 0 → EvV K mX9_add 1 88 [(0, .ref 11), (3, .int x3)] [.int 1, .int (sI G8 11 2), .ref 11] G8 Q))) :
    EvV K mX9_add 1 25 [(0, .ref 11), (1, .int x1), (2, .int x2), (3, .int x3), (4, .int x4)] [] G Q := by
  refine E_aload_n 0 dX9_add_25 rfl rfl rfl ?_
  refine E_gR (j := 12) fG_X9_11 rfl (lo_11 hL) (lr_11_0 hL) (by decide) dX9_add_26 ?_
  refine E_iload_n 1 dX9_add_29 rfl rfl ?_
  refine E_bipush (v := 30) dX9_add_30 (by decide) ?_
  refine E_imul dX9_add_32 ?_
  refine E_iload_n 2 dX9_add_33 rfl rfl ?_
  refine E_iadd dX9_add_34 ?_
  refine E_iload_n 3 dX9_add_35 rfl rfl ?_
  obtain ⟨qq1, hB⟩ := hB
  refine E_sI (p := Int32.toNatClampNeg ((x1 * 30) + x2)) (la_12 hL) qq1 rfl dX9_add_36 ?_
  refine E_aload_n 0 dX9_add_37 rfl rfl rfl ?_
  refine E_gR (j := 12) fG_X9_11 rfl (lo_11 hL) (lr_11_0 hL) (by decide) dX9_add_38 ?_
  refine E_iload_n 2 dX9_add_41 rfl rfl ?_
  refine E_bipush (v := 30) dX9_add_42 (by decide) ?_
  refine E_imul dX9_add_44 ?_
  refine E_iload_n 1 dX9_add_45 rfl rfl ?_
  refine E_iadd dX9_add_46 ?_
  refine E_iload_n 3 dX9_add_47 rfl rfl ?_
  obtain ⟨qq2, hB⟩ := hB
  refine E_sI (p := Int32.toNatClampNeg ((x2 * 30) + x1)) (la_12 hL) qq2 rfl dX9_add_48 ?_
  refine E_aload_n 0 dX9_add_49 rfl rfl rfl ?_
  refine E_gR (j := 13) fG_X9_17 rfl (lo_11 hL) (lr_11_1 hL) (by decide) dX9_add_50 ?_
  refine E_iload_n 1 dX9_add_53 rfl rfl ?_
  refine E_dup2 dX9_add_54 rfl rfl ?_
  obtain ⟨qq3, hB⟩ := hB
  refine E_aI (p := Int32.toNatClampNeg x1) (v := sI G 13 (Int32.toNatClampNeg x1)) (la_13 hL) qq3 rfl rfl dX9_add_55 ?_
  refine E_iconst (v := 1) dX9_add_56 (by decide) ?_
  refine E_iload_n 2 dX9_add_57 rfl rfl ?_
  refine E_ishl dX9_add_58 ?_
  refine E_ior dX9_add_59 ?_
  obtain ⟨qq4, hB⟩ := hB
  refine E_sI (p := Int32.toNatClampNeg x1) (la_13 hL) qq4 rfl dX9_add_60 ?_
  refine E_aload_n 0 dX9_add_61 rfl rfl rfl ?_
  refine E_gR (j := 13) fG_X9_17 rfl (lo_11 hL) (lr_11_1 hL) (by decide) dX9_add_62 ?_
  refine E_iload_n 2 dX9_add_65 rfl rfl ?_
  refine E_dup2 dX9_add_66 rfl rfl ?_
  obtain ⟨qq5, hB⟩ := hB
  refine E_aI (p := Int32.toNatClampNeg x2) (v := sI (uI (uI (uI G 12 (Int32.toNatClampNeg ((x1 * 30) + x2)) x3) 12 (Int32.toNatClampNeg ((x2 * 30) + x1)) x3) 13 (Int32.toNatClampNeg x1) ((sI G 13 (Int32.toNatClampNeg x1)) ||| (1 <<< (x2 &&& 31)))) 13 (Int32.toNatClampNeg x2)) (la_13 hL) qq5 rfl rfl dX9_add_67 ?_
  refine E_topi (fun v6 ev6 => ?_)
  have hB := hB v6 ev6
  refine E_iconst (v := 1) dX9_add_68 (by decide) ?_
  refine E_iload_n 1 dX9_add_69 rfl rfl ?_
  refine E_ishl dX9_add_70 ?_
  refine E_ior dX9_add_71 ?_
  obtain ⟨qq7, hB⟩ := hB
  refine E_sI (p := Int32.toNatClampNeg x2) (la_13 hL) qq7 rfl dX9_add_72 ?_
  refine E_nmG (fun G8 eG8 => ?_)
  have hB := hB G8 eG8
  have hL8 : Lay G8.2.2 := by rw [eG8]; exact hL
  have hE8 : G8.2.2 = G.2.2 := by rw [eG8]; exact rfl
  refine E_aload_n 0 dX9_add_73 rfl rfl rfl ?_
  refine E_dup dX9_add_74 rfl ?_
  refine E_gI (v := sI G8 11 2) fG_X9_26 rfl (lo_11 hL8) rfl dX9_add_75 ?_
  refine E_iload 4 dX9_add_78 rfl ?_
  refine E_if_ne (tgt := 87) dX9_add_80 (by decide) (fun c => ?_) (fun c => ?_)
  · have hB := hB.1 c
    refine E_iconst (v := 0) dX9_add_87 (by decide) ?_
    refine E_sub (lv' := [(0, .ref 11), (3, .int x3)]) [0, 3] rfl ?_
    exact EvV.tr hB hE8
  · have hB := hB.2 c
    refine E_iconst (v := 1) dX9_add_83 (by decide) ?_
    refine E_goto (tgt := 88) dX9_add_84 (by decide) ?_
    refine E_sub (lv' := [(0, .ref 11), (3, .int x3)]) [0, 3] rfl ?_
    exact EvV.tr hB hE8

set_option maxRecDepth 20000 in
set_option maxHeartbeats 2000000 in
theorem kX9_add_88 {K : KT} {G : St} {Q : St → Prop} {x3 : Int32} {xs1 : Int32} {xs2 : Int32} (hL : Lay G.2.2) 
    (hB : (((sI G 11 3) = 0 → Q (uI (uI G 11 2 (xs1 + xs2)) 11 3 x3)) ∧ (¬ (sI G 11 3) = 0 → (((sI G 11 3) ≤ x3 → Q (uI G 11 2 (xs1 + xs2))) ∧ (¬ (sI G 11 3) ≤ x3 → Q (uI (uI G 11 2 (xs1 + xs2)) 11 3 x3)))))) :
    EvV K mX9_add 1 88 [(0, .ref 11), (3, .int x3)] [.int xs2, .int xs1, .ref 11] G Q := by
  refine E_iadd dX9_add_88 ?_
  refine E_pI fP_X9_26 rfl (lo_11 hL) dX9_add_89 ?_
  refine E_aload_n 0 dX9_add_92 rfl rfl rfl ?_
  refine E_gI (v := sI G 11 3) fG_X9_30 rfl (lo_11 hL) rfl dX9_add_93 ?_
  refine E_if_eq (tgt := 107) dX9_add_96 (by decide) (fun c => ?_) (fun c => ?_)
  · have hB := hB.1 c
    refine E_aload_n 0 dX9_add_107 rfl rfl rfl ?_
    refine E_iload_n 1 dX9_add_108 rfl rfl ?_
    refine E_pI fP_X9_30 rfl (lo_11 hL) dX9_add_109 ?_
    exact E_vret rfl dX9_add_112 ⟨rfl, rfl, hB⟩
  · have hB := hB.2 c
    refine E_iload_n 1 dX9_add_99 rfl rfl ?_
    refine E_aload_n 0 dX9_add_100 rfl rfl rfl ?_
    refine E_gI (v := sI G 11 3) fG_X9_30 rfl (lo_11 hL) rfl dX9_add_101 ?_
    refine E_icmp_ge (tgt := 112) dX9_add_104 (by decide) (fun c => ?_) (fun c => ?_)
    · have hB := hB.1 c
      exact E_vret rfl dX9_add_112 ⟨rfl, rfl, hB⟩
    · have hB := hB.2 c
      refine E_aload_n 0 dX9_add_107 rfl rfl rfl ?_
      refine E_iload_n 1 dX9_add_108 rfl rfl ?_
      refine E_pI fP_X9_30 rfl (lo_11 hL) dX9_add_109 ?_
      exact E_vret rfl dX9_add_112 ⟨rfl, rfl, hB⟩

set_option maxRecDepth 20000 in
set_option maxHeartbeats 2000000 in
theorem kX9_addKey_0 {K : KT} {G : St} {Q : St → Prop} {h1 : Nat} {x2 : Int32} {x3 : Int32} {x4 : Int32} (hL : Lay G.2.2) (hh1 : h1 = 39 ∨ h1 = 49)
    (hB : EvI K mX1_keyAt 1 0 [(0, .ref h1), (1, .int x3), (2, .int x4), (3, .int x2)] [] G (fun r1 G1 => ((¬ r1 = (-1) → EvV K mX9_addKey 2 23 [(0, .ref 11), (1, .ref h1), (2, .int x2), (3, .int x3), (4, .int x4), (5, .int r1), (6, .int 0), (7, .int 0)] [] G1 Q) ∧ (r1 = (-1) → Q G1)))) :
    EvV K mX9_addKey 2 0 [(0, .ref 11), (1, .ref h1), (2, .int x2), (3, .int x3), (4, .int x4)] [] G Q := by
  refine E_aload_n 1 dX9_addKey_0 rfl rfl rfl ?_
  refine E_iload_n 3 dX9_addKey_1 rfl rfl ?_
  refine E_iload 4 dX9_addKey_2 rfl ?_
  refine E_iload_n 2 dX9_addKey_4 rfl rfl ?_
  refine E_cV (ci := 1) (as := [.int x3, .int x4, .int x2]) (st := []) cm_X1_keyAt cV_X9_55 ⟨_, _, rfl⟩ (by decide) (lhO hL hh1) rfl rfl (by decide) (Nat.le_of_ble_eq_true rfl) (Nat.le_of_ble_eq_true rfl) dX9_addKey_5 hB (fun r G1 hr => ?_)
  obtain ⟨r1, rfl, hE1, hB⟩ := hr
  have hL1 : Lay G1.2.2 := by rw [hE1]; exact hL
  have hE1 : G1.2.2 = G.2.2 := hE1
  show Ev K mX9_addKey 2 8 [(0, .ref 11), (1, .ref h1), (2, .int x2), (3, .int x3), (4, .int x4)] [.int r1] G1 _
  refine E_istore (lv' := [(0, .ref 11), (1, .ref h1), (2, .int x2), (3, .int x3), (4, .int x4), (5, .int r1)]) dX9_addKey_8 (by decide) rfl ?_
  refine E_iload 5 dX9_addKey_10 rfl ?_
  refine E_iconst (v := (-1)) dX9_addKey_12 (by decide) ?_
  refine E_icmp_ne (tgt := 17) dX9_addKey_13 (by decide) (fun c => ?_) (fun c => ?_)
  · have hB := hB.1 c
    refine E_iconst (v := 0) dX9_addKey_17 (by decide) ?_
    refine E_istore (lv' := [(0, .ref 11), (1, .ref h1), (2, .int x2), (3, .int x3), (4, .int x4), (5, .int r1), (6, .int 0)]) dX9_addKey_18 (by decide) rfl ?_
    refine E_iconst (v := 0) dX9_addKey_20 (by decide) ?_
    refine E_istore (lv' := [(0, .ref 11), (1, .ref h1), (2, .int x2), (3, .int x3), (4, .int x4), (5, .int r1), (6, .int 0), (7, .int 0)]) dX9_addKey_21 (by decide) rfl ?_
    exact EvV.tr hB hE1
  · have hB := hB.2 c
    exact E_vret rfl dX9_addKey_16 ⟨rfl, hE1, hB⟩

set_option maxRecDepth 20000 in
set_option maxHeartbeats 2000000 in
theorem kX9_addKey_23 {K : KT} {G : St} {Q : St → Prop} {h1 : Nat} {x2 : Int32} {x3 : Int32} {x4 : Int32} {x5 : Int32} {x6 : Int32} {x7 : Int32} (hL : Lay G.2.2) (hh1 : h1 = 39 ∨ h1 = 49)
    (hB : (((sI G h1 10) ≤ x7 → EvV K mX9_add 1 0 [(0, .ref 11), (1, .int x3), (2, .int x5), (3, .int (1 + (x6 / 3)))] [] G (fun G1 => Q G1)) ∧ (¬ (sI G h1 10) ≤ x7 → ((((x2 >>> (x7 &&& 31)) &&& 1) = 0 → EvV K mX9_addKey 2 61 [(0, .ref 11), (1, .ref h1), (2, .int x2), (3, .int x3), (4, .int x4), (5, .int x5), (6, .int x6), (7, .int x7)] [] G Q) ∧ (¬ ((x2 >>> (x7 &&& 31)) &&& 1) = 0 → vp_in x7 30 ∧ vp_in x3 30 ∧ ((¬ (sI G (h1 + 5) (Int32.toNatClampNeg x7)) = (sI G (h1 + 5) (Int32.toNatClampNeg x3)) → EvV K mX9_addKey 2 61 [(0, .ref 11), (1, .ref h1), (2, .int x2), (3, .int x3), (4, .int x4), (5, .int x5), (6, .int x6), (7, .int x7)] [] G Q) ∧ ((sI G (h1 + 5) (Int32.toNatClampNeg x7)) = (sI G (h1 + 5) (Int32.toNatClampNeg x3)) → EvV K mX9_addKey 2 62 [(0, .ref 11), (1, .ref h1), (2, .int x2), (3, .int x3), (4, .int x4), (5, .int x5), (6, .int x6), (7, .int x7)] [.int 1] G Q))))))) :
    EvV K mX9_addKey 2 23 [(0, .ref 11), (1, .ref h1), (2, .int x2), (3, .int x3), (4, .int x4), (5, .int x5), (6, .int x6), (7, .int x7)] [] G Q := by
  refine E_iload 7 dX9_addKey_23 rfl ?_
  refine E_aload_n 1 dX9_addKey_25 rfl rfl rfl ?_
  refine E_gI (v := sI G h1 10) fG_X9_33 rfl (lhO hL hh1) rfl dX9_addKey_26 ?_
  refine E_icmp_ge (tgt := 92) dX9_addKey_29 (by decide) (fun c => ?_) (fun c => ?_)
  · have hB := hB.1 c
    refine E_aload_n 0 dX9_addKey_92 rfl rfl rfl ?_
    refine E_iload_n 3 dX9_addKey_93 rfl rfl ?_
    refine E_iload 5 dX9_addKey_94 rfl ?_
    refine E_iconst (v := 1) dX9_addKey_96 (by decide) ?_
    refine E_iload 6 dX9_addKey_97 rfl ?_
    refine E_iconst (v := 3) dX9_addKey_99 (by decide) ?_
    refine E_idiv dX9_addKey_100 (by decide) ?_
    refine E_iadd dX9_addKey_101 ?_
    refine E_cV (ci := 9) (as := [.int x3, .int x5, .int (1 + (x6 / 3))]) (st := []) cm_X9_add cV_X9_62 ⟨_, _, rfl⟩ (by decide) (lo_11 hL) rfl rfl (by decide) (Nat.le_of_ble_eq_true rfl) (Nat.le_of_ble_eq_true rfl) dX9_addKey_102 hB (fun r G1 hr => ?_)
    obtain ⟨rfl, hE1, hB⟩ := hr
    have hL1 : Lay G1.2.2 := by rw [hE1]; exact hL
    have hE1 : G1.2.2 = G.2.2 := hE1
    show Ev K mX9_addKey 2 105 [(0, .ref 11), (1, .ref h1), (2, .int x2), (3, .int x3), (4, .int x4), (5, .int x5), (6, .int x6), (7, .int x7)] [] G1 _
    exact E_vret rfl dX9_addKey_105 ⟨rfl, hE1, hB⟩
  · have hB := hB.2 c
    refine E_iload_n 2 dX9_addKey_32 rfl rfl ?_
    refine E_iload 7 dX9_addKey_33 rfl ?_
    refine E_ishr dX9_addKey_35 ?_
    refine E_iconst (v := 1) dX9_addKey_36 (by decide) ?_
    refine E_iand dX9_addKey_37 ?_
    refine E_if_eq (tgt := 61) dX9_addKey_38 (by decide) (fun c => ?_) (fun c => ?_)
    · have hB := hB.1 c
      exact EvV.tr hB rfl
    · have hB := hB.2 c
      refine E_aload_n 1 dX9_addKey_41 rfl rfl rfl ?_
      refine E_gR (j := h1 + 5) fG_X9_59 rfl (lhO hL hh1) (lhR4 hL hh1) (Nat.succ_pos _) dX9_addKey_42 ?_
      refine E_iload 7 dX9_addKey_45 rfl ?_
      obtain ⟨qq2, hB⟩ := hB
      refine E_aI (p := Int32.toNatClampNeg x7) (v := sI G (h1 + 5) (Int32.toNatClampNeg x7)) (lhA4 hL hh1) qq2 rfl rfl dX9_addKey_47 ?_
      refine E_aload_n 1 dX9_addKey_48 rfl rfl rfl ?_
      refine E_gR (j := h1 + 5) fG_X9_59 rfl (lhO hL hh1) (lhR4 hL hh1) (Nat.succ_pos _) dX9_addKey_49 ?_
      refine E_iload_n 3 dX9_addKey_52 rfl rfl ?_
      obtain ⟨qq3, hB⟩ := hB
      refine E_aI (p := Int32.toNatClampNeg x3) (v := sI G (h1 + 5) (Int32.toNatClampNeg x3)) (lhA4 hL hh1) qq3 rfl rfl dX9_addKey_53 ?_
      refine E_icmp_ne (tgt := 61) dX9_addKey_54 (by decide) (fun c => ?_) (fun c => ?_)
      · have hB := hB.1 c
        exact EvV.tr hB rfl
      · have hB := hB.2 c
        refine E_iconst (v := 1) dX9_addKey_57 (by decide) ?_
        refine E_goto (tgt := 62) dX9_addKey_58 (by decide) ?_
        exact EvV.tr hB rfl

set_option maxRecDepth 20000 in
set_option maxHeartbeats 2000000 in
theorem kX9_addKey_61 {K : KT} {G : St} {Q : St → Prop} {h1 : Nat} {x2 : Int32} {x3 : Int32} {x4 : Int32} {x5 : Int32} {x6 : Int32} {x7 : Int32} (hL : Lay G.2.2) (hh1 : h1 = 39 ∨ h1 = 49)
    (hB : EvV K mX9_addKey 2 62 [(0, .ref 11), (1, .ref h1), (2, .int x2), (3, .int x3), (4, .int x4), (5, .int x5), (6, .int x6), (7, .int x7)] [.int 0] G Q) :
    EvV K mX9_addKey 2 61 [(0, .ref 11), (1, .ref h1), (2, .int x2), (3, .int x3), (4, .int x4), (5, .int x5), (6, .int x6), (7, .int x7)] [] G Q := by
  refine E_iconst (v := 0) dX9_addKey_61 (by decide) ?_
  exact EvV.tr hB rfl

set_option maxRecDepth 20000 in
set_option maxHeartbeats 2000000 in
theorem kX9_addKey_62 {K : KT} {G : St} {Q : St → Prop} {h1 : Nat} {x2 : Int32} {x3 : Int32} {x4 : Int32} {x5 : Int32} {x6 : Int32} {x7 : Int32} {xs0 : Int32} (hL : Lay G.2.2) (hh1 : h1 = 39 ∨ h1 = 49)
    (hB : ((xs0 = 0 → EvV K mX9_addKey 2 86 [(0, .ref 11), (1, .ref h1), (2, .int x2), (3, .int x3), (4, .int x4), (5, .int x5), (6, .int x6), (7, .int x7)] [] G Q) ∧ (¬ xs0 = 0 → EvI K mX1_keyAt 1 0 [(0, .ref h1), (1, .int x7), (2, .int x4), (3, .int x2)] [] G (fun r1 G1 => ((¬ r1 = x5 → EvV K mX9_addKey 2 86 [(0, .ref 11), (1, .ref h1), (2, .int x2), (3, .int x3), (4, .int x4), (5, .int x5), (6, .int x6), (7, .int x7)] [] G1 Q) ∧ (r1 = x5 → EvV K mX9_addKey 2 86 [(0, .ref 11), (1, .ref h1), (2, .int x2), (3, .int x3), (4, .int x4), (5, .int x5), (6, .int (x6 + 1)), (7, .int x7)] [] G1 Q)))))) :
    EvV K mX9_addKey 2 62 [(0, .ref 11), (1, .ref h1), (2, .int x2), (3, .int x3), (4, .int x4), (5, .int x5), (6, .int x6), (7, .int x7)] [.int xs0] G Q := by
  refine E_istore (lv' := [(0, .ref 11), (1, .ref h1), (2, .int x2), (3, .int x3), (4, .int x4), (5, .int x5), (6, .int x6), (7, .int x7), (8, .int xs0)]) dX9_addKey_62 (by decide) rfl ?_
  refine E_iload 8 dX9_addKey_64 rfl ?_
  refine E_if_eq (tgt := 86) dX9_addKey_66 (by decide) (fun c => ?_) (fun c => ?_)
  · have hB := hB.1 c
    refine E_sub (lv' := [(0, .ref 11), (1, .ref h1), (2, .int x2), (3, .int x3), (4, .int x4), (5, .int x5), (6, .int x6), (7, .int x7)]) [0, 1, 2, 3, 4, 5, 6, 7] rfl ?_
    exact EvV.tr hB rfl
  · have hB := hB.2 c
    refine E_aload_n 1 dX9_addKey_69 rfl rfl rfl ?_
    refine E_iload 7 dX9_addKey_70 rfl ?_
    refine E_iload 4 dX9_addKey_72 rfl ?_
    refine E_iload_n 2 dX9_addKey_74 rfl rfl ?_
    refine E_cV (ci := 1) (as := [.int x7, .int x4, .int x2]) (st := []) cm_X1_keyAt cV_X9_55 ⟨_, _, rfl⟩ (by decide) (lhO hL hh1) rfl rfl (by decide) (Nat.le_of_ble_eq_true rfl) (Nat.le_of_ble_eq_true rfl) dX9_addKey_75 hB (fun r G1 hr => ?_)
    obtain ⟨r1, rfl, hE1, hB⟩ := hr
    have hL1 : Lay G1.2.2 := by rw [hE1]; exact hL
    have hE1 : G1.2.2 = G.2.2 := hE1
    show Ev K mX9_addKey 2 78 [(0, .ref 11), (1, .ref h1), (2, .int x2), (3, .int x3), (4, .int x4), (5, .int x5), (6, .int x6), (7, .int x7), (8, .int xs0)] [.int r1] G1 _
    refine E_iload 5 dX9_addKey_78 rfl ?_
    refine E_icmp_ne (tgt := 86) dX9_addKey_80 (by decide) (fun c => ?_) (fun c => ?_)
    · have hB := hB.1 c
      refine E_sub (lv' := [(0, .ref 11), (1, .ref h1), (2, .int x2), (3, .int x3), (4, .int x4), (5, .int x5), (6, .int x6), (7, .int x7)]) [0, 1, 2, 3, 4, 5, 6, 7] rfl ?_
      exact EvV.tr hB hE1
    · have hB := hB.2 c
      refine E_iinc (v := x6 + 1) (lv' := [(0, .ref 11), (1, .ref h1), (2, .int x2), (3, .int x3), (4, .int x4), (5, .int x5), (6, .int (x6 + 1)), (7, .int x7), (8, .int xs0)]) 6 dX9_addKey_83 rfl rfl (by decide) rfl ?_
      refine E_sub (lv' := [(0, .ref 11), (1, .ref h1), (2, .int x2), (3, .int x3), (4, .int x4), (5, .int x5), (6, .int (x6 + 1)), (7, .int x7)]) [0, 1, 2, 3, 4, 5, 6, 7] rfl ?_
      exact EvV.tr hB hE1

set_option maxRecDepth 20000 in
set_option maxHeartbeats 2000000 in
theorem kX9_addKey_86 {K : KT} {G : St} {Q : St → Prop} {h1 : Nat} {x2 : Int32} {x3 : Int32} {x4 : Int32} {x5 : Int32} {x6 : Int32} {x7 : Int32} (hL : Lay G.2.2) (hh1 : h1 = 39 ∨ h1 = 49)
    (hB : EvV K mX9_addKey 2 23 [(0, .ref 11), (1, .ref h1), (2, .int x2), (3, .int x3), (4, .int x4), (5, .int x5), (6, .int x6), (7, .int (x7 + 1))] [] G Q) :
    EvV K mX9_addKey 2 86 [(0, .ref 11), (1, .ref h1), (2, .int x2), (3, .int x3), (4, .int x4), (5, .int x5), (6, .int x6), (7, .int x7)] [] G Q := by
  refine E_iinc (v := x7 + 1) (lv' := [(0, .ref 11), (1, .ref h1), (2, .int x2), (3, .int x3), (4, .int x4), (5, .int x5), (6, .int x6), (7, .int (x7 + 1))]) 7 dX9_addKey_86 rfl rfl (by decide) rfl ?_
  refine E_goto (tgt := 23) dX9_addKey_89 (by decide) ?_
  exact EvV.tr hB rfl

set_option maxRecDepth 20000 in
set_option maxHeartbeats 2000000 in
theorem kX9_addLet_0 {K : KT} {G : St} {Q : St → Prop} {h1 : Nat} {x2 : Int32} {x3 : Int32} {x4 : Int32} (hL : Lay G.2.2) (hh1 : h1 = 39 ∨ h1 = 49)
    (hB : EvV K mX9_addLet 3 3 [(0, .ref 11), (1, .ref h1), (2, .int x2), (3, .int x3), (4, .int x4), (5, .int 0)] [] G Q) :
    EvV K mX9_addLet 3 0 [(0, .ref 11), (1, .ref h1), (2, .int x2), (3, .int x3), (4, .int x4)] [] G Q := by
  refine E_iconst (v := 0) dX9_addLet_0 (by decide) ?_
  refine E_istore (lv' := [(0, .ref 11), (1, .ref h1), (2, .int x2), (3, .int x3), (4, .int x4), (5, .int 0)]) dX9_addLet_1 (by decide) rfl ?_
  exact EvV.tr hB rfl

set_option maxRecDepth 20000 in
set_option maxHeartbeats 2000000 in
theorem kX9_addLet_3 {K : KT} {G : St} {Q : St → Prop} {h1 : Nat} {x2 : Int32} {x3 : Int32} {x4 : Int32} {x5 : Int32} (hL : Lay G.2.2) (hh1 : h1 = 39 ∨ h1 = 49)
    (hB : (((sI G h1 10) ≤ x5 → Q G) ∧ (¬ (sI G h1 10) ≤ x5 → EvL K mX2_wordIn 2 0 [(0, .ref h1), (1, .int x2), (2, .int x5), (3, .int x3)] [] G (fun r1 G1 => EvV K mX9_addLet 3 25 [(0, .ref 11), (1, .ref h1), (2, .int x2), (3, .int x3), (4, .int x4), (5, .int x5), (6, .long r1), (8, .int 0)] [] G1 Q)))) :
    EvV K mX9_addLet 3 3 [(0, .ref 11), (1, .ref h1), (2, .int x2), (3, .int x3), (4, .int x4), (5, .int x5)] [] G Q := by
  refine E_iload 5 dX9_addLet_3 rfl ?_
  refine E_aload_n 1 dX9_addLet_5 rfl rfl rfl ?_
  refine E_gI (v := sI G h1 10) fG_X9_33 rfl (lhO hL hh1) rfl dX9_addLet_6 ?_
  refine E_icmp_ge (tgt := 77) dX9_addLet_9 (by decide) (fun c => ?_) (fun c => ?_)
  · have hB := hB.1 c
    exact E_vret rfl dX9_addLet_77 ⟨rfl, rfl, hB⟩
  · have hB := hB.2 c
    refine E_aload_n 1 dX9_addLet_12 rfl rfl rfl ?_
    refine E_iload_n 2 dX9_addLet_13 rfl rfl ?_
    refine E_iload 5 dX9_addLet_14 rfl ?_
    refine E_iload_n 3 dX9_addLet_16 rfl rfl ?_
    refine E_callS (as := [.ref h1, .int x2, .int x5, .int x3]) (st := []) cm_X2_wordIn cS_X9_66 rfl rfl (by decide) (Nat.le_of_ble_eq_true rfl) (Nat.le_of_ble_eq_true rfl) dX9_addLet_17 hB (fun r G1 hr => ?_)
    obtain ⟨r1, rfl, hE1, hB⟩ := hr
    have hL1 : Lay G1.2.2 := by rw [hE1]; exact hL
    have hE1 : G1.2.2 = G.2.2 := hE1
    show Ev K mX9_addLet 3 20 [(0, .ref 11), (1, .ref h1), (2, .int x2), (3, .int x3), (4, .int x4), (5, .int x5)] [.long r1] G1 _
    refine E_lstore (lv' := [(0, .ref 11), (1, .ref h1), (2, .int x2), (3, .int x3), (4, .int x4), (5, .int x5), (6, .long r1)]) dX9_addLet_20 (by decide) rfl ?_
    refine E_iconst (v := 0) dX9_addLet_22 (by decide) ?_
    refine E_istore (lv' := [(0, .ref 11), (1, .ref h1), (2, .int x2), (3, .int x3), (4, .int x4), (5, .int x5), (6, .long r1), (8, .int 0)]) dX9_addLet_23 (by decide) rfl ?_
    exact EvV.tr hB hE1

set_option maxRecDepth 20000 in
set_option maxHeartbeats 2000000 in
theorem kX9_addLet_25 {K : KT} {G : St} {Q : St → Prop} {h1 : Nat} {x2 : Int32} {x3 : Int32} {x4 : Int32} {x5 : Int32} {y6 : Int64} {x8 : Int32} (hL : Lay G.2.2) (hh1 : h1 = 39 ∨ h1 = 49)
    (hB : (((sI G h1 10) ≤ x8 → EvV K mX9_addLet 3 71 [(0, .ref 11), (1, .ref h1), (2, .int x2), (3, .int x3), (4, .int x4), (5, .int x5)] [] G Q) ∧ (¬ (sI G h1 10) ≤ x8 → ((y6 = 0 → EvV K mX9_addLet 3 71 [(0, .ref 11), (1, .ref h1), (2, .int x2), (3, .int x3), (4, .int x4), (5, .int x5)] [] G Q) ∧ (¬ y6 = 0 → EvL K mX2_wordIn 2 0 [(0, .ref h1), (1, .int x2), (2, .int x8), (3, .int x4)] [] G (fun r1 G1 => ((¬ r1 = y6 → EvV K mX9_addLet 3 65 [(0, .ref 11), (1, .ref h1), (2, .int x2), (3, .int x3), (4, .int x4), (5, .int x5), (6, .long y6), (8, .int x8)] [] G1 Q) ∧ (r1 = y6 → EvV K mX9_add 1 0 [(0, .ref 11), (1, .int x5), (2, .int x8), (3, .int 3)] [] G1 (fun G2 => EvV K mX9_addLet 3 65 [(0, .ref 11), (1, .ref h1), (2, .int x2), (3, .int x3), (4, .int x4), (5, .int x5), (6, .long y6), (8, .int x8)] [] G2 Q))))))))) :
    EvV K mX9_addLet 3 25 [(0, .ref 11), (1, .ref h1), (2, .int x2), (3, .int x3), (4, .int x4), (5, .int x5), (6, .long y6), (8, .int x8)] [] G Q := by
  refine E_iload 7 dX9_addLet_25 rfl ?_
  refine E_aload_n 1 dX9_addLet_27 rfl rfl rfl ?_
  refine E_gI (v := sI G h1 10) fG_X9_33 rfl (lhO hL hh1) rfl dX9_addLet_28 ?_
  refine E_icmp_ge (tgt := 71) dX9_addLet_31 (by decide) (fun c => ?_) (fun c => ?_)
  · have hB := hB.1 c
    refine E_sub (lv' := [(0, .ref 11), (1, .ref h1), (2, .int x2), (3, .int x3), (4, .int x4), (5, .int x5)]) [0, 1, 2, 3, 4, 5] rfl ?_
    exact EvV.tr hB rfl
  · have hB := hB.2 c
    refine E_lload 6 dX9_addLet_34 rfl ?_
    refine E_lconst (v := 0) dX9_addLet_36 (by decide) ?_
    refine E_lcmp dX9_addLet_37 ?_
    refine E_if_eq (tgt := 71) dX9_addLet_38 (by decide) (fun c => ?_) (fun c => ?_)
    · have hB := hB.1 ((lgc_eq y6 0).mp c)
      refine E_sub (lv' := [(0, .ref 11), (1, .ref h1), (2, .int x2), (3, .int x3), (4, .int x4), (5, .int x5)]) [0, 1, 2, 3, 4, 5] rfl ?_
      exact EvV.tr hB rfl
    · have hB := hB.2 (fun q => c ((lgc_eq y6 0).mpr q))
      refine E_aload_n 1 dX9_addLet_41 rfl rfl rfl ?_
      refine E_iload_n 2 dX9_addLet_42 rfl rfl ?_
      refine E_iload 7 dX9_addLet_43 rfl ?_
      refine E_iload 4 dX9_addLet_45 rfl ?_
      refine E_callS (as := [.ref h1, .int x2, .int x8, .int x4]) (st := []) cm_X2_wordIn cS_X9_66 rfl rfl (by decide) (Nat.le_of_ble_eq_true rfl) (Nat.le_of_ble_eq_true rfl) dX9_addLet_47 hB (fun r G1 hr => ?_)
      obtain ⟨r1, rfl, hE1, hB⟩ := hr
      have hL1 : Lay G1.2.2 := by rw [hE1]; exact hL
      have hE1 : G1.2.2 = G.2.2 := hE1
      show Ev K mX9_addLet 3 50 [(0, .ref 11), (1, .ref h1), (2, .int x2), (3, .int x3), (4, .int x4), (5, .int x5), (6, .long y6), (8, .int x8)] [.long r1] G1 _
      refine E_lload 6 dX9_addLet_50 rfl ?_
      refine E_lcmp dX9_addLet_52 ?_
      refine E_if_ne (tgt := 65) dX9_addLet_53 (by decide) (fun c => ?_) (fun c => ?_)
      · have hB := hB.1 ((fun q => c ((lgc_eq r1 y6).mpr q)))
        exact EvV.tr hB hE1
      · have hB := hB.2 ((lgc_eq r1 y6).mp c)
        refine E_aload_n 0 dX9_addLet_56 rfl rfl rfl ?_
        refine E_iload 5 dX9_addLet_57 rfl ?_
        refine E_iload 7 dX9_addLet_59 rfl ?_
        refine E_iconst (v := 3) dX9_addLet_61 (by decide) ?_
        refine E_cV (ci := 9) (as := [.int x5, .int x8, .int 3]) (st := []) cm_X9_add cV_X9_62 ⟨_, _, rfl⟩ (by decide) (lo_11 hL1) rfl rfl (by decide) (Nat.le_of_ble_eq_true rfl) (Nat.le_of_ble_eq_true rfl) dX9_addLet_62 hB (fun r G2 hr => ?_)
        obtain ⟨rfl, hE2, hB⟩ := hr
        have hL2 : Lay G2.2.2 := by rw [hE2]; exact hL1
        have hE2 : G2.2.2 = G.2.2 := hE2.trans hE1
        show Ev K mX9_addLet 3 65 [(0, .ref 11), (1, .ref h1), (2, .int x2), (3, .int x3), (4, .int x4), (5, .int x5), (6, .long y6), (8, .int x8)] [] G2 _
        exact EvV.tr hB hE2

set_option maxRecDepth 20000 in
set_option maxHeartbeats 2000000 in
theorem kX9_addLet_65 {K : KT} {G : St} {Q : St → Prop} {h1 : Nat} {x2 : Int32} {x3 : Int32} {x4 : Int32} {x5 : Int32} {y6 : Int64} {x8 : Int32} (hL : Lay G.2.2) (hh1 : h1 = 39 ∨ h1 = 49)
    (hB : EvV K mX9_addLet 3 25 [(0, .ref 11), (1, .ref h1), (2, .int x2), (3, .int x3), (4, .int x4), (5, .int x5), (6, .long y6), (8, .int (x8 + 1))] [] G Q) :
    EvV K mX9_addLet 3 65 [(0, .ref 11), (1, .ref h1), (2, .int x2), (3, .int x3), (4, .int x4), (5, .int x5), (6, .long y6), (8, .int x8)] [] G Q := by
  refine E_iinc (v := x8 + 1) (lv' := [(0, .ref 11), (1, .ref h1), (2, .int x2), (3, .int x3), (4, .int x4), (5, .int x5), (6, .long y6), (8, .int (x8 + 1))]) 7 dX9_addLet_65 rfl rfl (by decide) rfl ?_
  refine E_goto (tgt := 25) dX9_addLet_68 (by decide) ?_
  exact EvV.tr hB rfl

set_option maxRecDepth 20000 in
set_option maxHeartbeats 2000000 in
theorem kX9_addLet_71 {K : KT} {G : St} {Q : St → Prop} {h1 : Nat} {x2 : Int32} {x3 : Int32} {x4 : Int32} {x5 : Int32} (hL : Lay G.2.2) (hh1 : h1 = 39 ∨ h1 = 49)
    (hB : EvV K mX9_addLet 3 3 [(0, .ref 11), (1, .ref h1), (2, .int x2), (3, .int x3), (4, .int x4), (5, .int (x5 + 1))] [] G Q) :
    EvV K mX9_addLet 3 71 [(0, .ref 11), (1, .ref h1), (2, .int x2), (3, .int x3), (4, .int x4), (5, .int x5)] [] G Q := by
  refine E_iinc (v := x5 + 1) (lv' := [(0, .ref 11), (1, .ref h1), (2, .int x2), (3, .int x3), (4, .int x4), (5, .int (x5 + 1))]) 5 dX9_addLet_71 rfl rfl (by decide) rfl ?_
  refine E_goto (tgt := 3) dX9_addLet_74 (by decide) ?_
  exact EvV.tr hB rfl

set_option maxRecDepth 20000 in
set_option maxHeartbeats 2000000 in
theorem kX9_fill_0 {K : KT} {G : St} {Q : St → Prop} {h1 : Nat} {x3 : Int32} (hL : Lay G.2.2) (hh1 : h1 = 39 ∨ h1 = 49)
    (hB : EvV K mJ7_fill_53178 0 0 [(0, .ref 12), (1, .int 0)] [] G (fun G1 => EvV K mJ7_fill_53178 0 0 [(0, .ref 13), (1, .int 0)] [] G1 (fun G2 => EvV K mX9_fill 4 29 [(0, .ref 11), (1, .ref h1), (2, .ref 14), (3, .int x3), (4, .int 0)] [] (uI (uI G2 11 2 0) 11 3 0) Q))) :
    EvV K mX9_fill 4 0 [(0, .ref 11), (1, .ref h1), (2, .ref 14), (3, .int x3)] [] G Q := by
  refine E_aload_n 0 dX9_fill_0 rfl rfl rfl ?_
  refine E_gR (j := 12) fG_X9_11 rfl (lo_11 hL) (lr_11_0 hL) (by decide) dX9_fill_1 ?_
  refine E_iconst (v := 0) dX9_fill_4 (by decide) ?_
  refine E_callS (as := [.ref 12, .int 0]) (st := []) cm_J7_fill_53178 cS_X9_20 rfl rfl (by decide) (Nat.le_of_ble_eq_true rfl) (Nat.le_of_ble_eq_true rfl) dX9_fill_5 hB (fun r G1 hr => ?_)
  obtain ⟨rfl, hE1, hB⟩ := hr
  have hL1 : Lay G1.2.2 := by rw [hE1]; exact hL
  have hE1 : G1.2.2 = G.2.2 := hE1
  show Ev K mX9_fill 4 8 [(0, .ref 11), (1, .ref h1), (2, .ref 14), (3, .int x3)] [] G1 _
  refine E_aload_n 0 dX9_fill_8 rfl rfl rfl ?_
  refine E_gR (j := 13) fG_X9_17 rfl (lo_11 hL1) (lr_11_1 hL1) (by decide) dX9_fill_9 ?_
  refine E_iconst (v := 0) dX9_fill_12 (by decide) ?_
  refine E_callS (as := [.ref 13, .int 0]) (st := []) cm_J7_fill_53178 cS_X9_20 rfl rfl (by decide) (Nat.le_of_ble_eq_true rfl) (Nat.le_of_ble_eq_true rfl) dX9_fill_13 hB (fun r G2 hr => ?_)
  obtain ⟨rfl, hE2, hB⟩ := hr
  have hL2 : Lay G2.2.2 := by rw [hE2]; exact hL1
  have hE2 : G2.2.2 = G.2.2 := hE2.trans hE1
  show Ev K mX9_fill 4 16 [(0, .ref 11), (1, .ref h1), (2, .ref 14), (3, .int x3)] [] G2 _
  refine E_aload_n 0 dX9_fill_16 rfl rfl rfl ?_
  refine E_iconst (v := 0) dX9_fill_17 (by decide) ?_
  refine E_pI fP_X9_26 rfl (lo_11 hL2) dX9_fill_18 ?_
  refine E_aload_n 0 dX9_fill_21 rfl rfl rfl ?_
  refine E_iconst (v := 0) dX9_fill_22 (by decide) ?_
  refine E_pI fP_X9_30 rfl (lo_11 hL2) dX9_fill_23 ?_
  refine E_iconst (v := 0) dX9_fill_26 (by decide) ?_
  refine E_istore (lv' := [(0, .ref 11), (1, .ref h1), (2, .ref 14), (3, .int x3), (4, .int 0)]) dX9_fill_27 (by decide) rfl ?_
  exact EvV.tr hB hE2

set_option maxRecDepth 20000 in
set_option maxHeartbeats 2000000 in
theorem kX9_fill_29 {K : KT} {G : St} {Q : St → Prop} {h1 : Nat} {x3 : Int32} {x4 : Int32} (hL : Lay G.2.2) (hh1 : h1 = 39 ∨ h1 = 49)
    (hB : (((sI G h1 10) ≤ x4 → EvV K mX9_fill 4 81 [(0, .ref 11), (1, .ref h1), (2, .ref 14), (3, .int x3), (4, .int 0)] [] G Q) ∧ (¬ (sI G h1 10) ≤ x4 → EvV K mX9_fill 4 41 [(0, .ref 11), (1, .ref h1), (2, .ref 14), (3, .int x3), (4, .int x4), (5, .int 0)] [] G Q))) :
    EvV K mX9_fill 4 29 [(0, .ref 11), (1, .ref h1), (2, .ref 14), (3, .int x3), (4, .int x4)] [] G Q := by
  refine E_iload 4 dX9_fill_29 rfl ?_
  refine E_aload_n 1 dX9_fill_31 rfl rfl rfl ?_
  refine E_gI (v := sI G h1 10) fG_X9_33 rfl (lhO hL hh1) rfl dX9_fill_32 ?_
  refine E_icmp_ge (tgt := 78) dX9_fill_35 (by decide) (fun c => ?_) (fun c => ?_)
  · have hB := hB.1 c
    refine E_iconst (v := 0) dX9_fill_78 (by decide) ?_
    refine E_istore (lv' := [(0, .ref 11), (1, .ref h1), (2, .ref 14), (3, .int x3), (4, .int 0)]) dX9_fill_79 (by decide) rfl ?_
    exact EvV.tr hB rfl
  · have hB := hB.2 c
    refine E_iconst (v := 0) dX9_fill_38 (by decide) ?_
    refine E_istore (lv' := [(0, .ref 11), (1, .ref h1), (2, .ref 14), (3, .int x3), (4, .int x4), (5, .int 0)]) dX9_fill_39 (by decide) rfl ?_
    exact EvV.tr hB rfl

set_option maxRecDepth 20000 in
set_option maxHeartbeats 2000000 in
theorem kX9_fill_41 {K : KT} {G : St} {Q : St → Prop} {h1 : Nat} {x3 : Int32} {x4 : Int32} {x5 : Int32} (hL : Lay G.2.2) (hh1 : h1 = 39 ∨ h1 = 49)
    (hB : ((4 ≤ x5 → EvV K mX9_fill 4 72 [(0, .ref 11), (1, .ref h1), (2, .ref 14), (3, .int x3), (4, .int x4)] [] G Q) ∧ (¬ 4 ≤ x5 → ((((x3 >>> (x4 &&& 31)) &&& 1) = 0 → EvV K mX9_fill 4 72 [(0, .ref 11), (1, .ref h1), (2, .ref 14), (3, .int x3), (4, .int x4)] [] G Q) ∧ (¬ ((x3 >>> (x4 &&& 31)) &&& 1) = 0 → EvV K mX9_addKey 2 0 [(0, .ref 11), (1, .ref h1), (2, .int x3), (3, .int x4), (4, .int x5)] [] G (fun G1 => EvV K mX9_fill 4 41 [(0, .ref 11), (1, .ref h1), (2, .ref 14), (3, .int x3), (4, .int x4), (5, .int (x5 + 1))] [] G1 Q)))))) :
    EvV K mX9_fill 4 41 [(0, .ref 11), (1, .ref h1), (2, .ref 14), (3, .int x3), (4, .int x4), (5, .int x5)] [] G Q := by
  refine E_iload 5 dX9_fill_41 rfl ?_
  refine E_iconst (v := 4) dX9_fill_43 (by decide) ?_
  refine E_icmp_ge (tgt := 72) dX9_fill_44 (by decide) (fun c => ?_) (fun c => ?_)
  · have hB := hB.1 c
    refine E_sub (lv' := [(0, .ref 11), (1, .ref h1), (2, .ref 14), (3, .int x3), (4, .int x4)]) [0, 1, 2, 3, 4] rfl ?_
    exact EvV.tr hB rfl
  · have hB := hB.2 c
    refine E_iload_n 3 dX9_fill_47 rfl rfl ?_
    refine E_iload 4 dX9_fill_48 rfl ?_
    refine E_ishr dX9_fill_50 ?_
    refine E_iconst (v := 1) dX9_fill_51 (by decide) ?_
    refine E_iand dX9_fill_52 ?_
    refine E_if_eq (tgt := 72) dX9_fill_53 (by decide) (fun c => ?_) (fun c => ?_)
    · have hB := hB.1 c
      refine E_sub (lv' := [(0, .ref 11), (1, .ref h1), (2, .ref 14), (3, .int x3), (4, .int x4)]) [0, 1, 2, 3, 4] rfl ?_
      exact EvV.tr hB rfl
    · have hB := hB.2 c
      refine E_aload_n 0 dX9_fill_56 rfl rfl rfl ?_
      refine E_aload_n 1 dX9_fill_57 rfl rfl rfl ?_
      refine E_iload_n 3 dX9_fill_58 rfl rfl ?_
      refine E_iload 4 dX9_fill_59 rfl ?_
      refine E_iload 5 dX9_fill_61 rfl ?_
      refine E_cV (ci := 9) (as := [.ref h1, .int x3, .int x4, .int x5]) (st := []) cm_X9_addKey cV_X9_36 ⟨_, _, rfl⟩ (by decide) (lo_11 hL) rfl rfl (by decide) (Nat.le_of_ble_eq_true rfl) (Nat.le_of_ble_eq_true rfl) dX9_fill_63 hB (fun r G1 hr => ?_)
      obtain ⟨rfl, hE1, hB⟩ := hr
      have hL1 : Lay G1.2.2 := by rw [hE1]; exact hL
      have hE1 : G1.2.2 = G.2.2 := hE1
      show Ev K mX9_fill 4 66 [(0, .ref 11), (1, .ref h1), (2, .ref 14), (3, .int x3), (4, .int x4), (5, .int x5)] [] G1 _
      refine E_iinc (v := x5 + 1) (lv' := [(0, .ref 11), (1, .ref h1), (2, .ref 14), (3, .int x3), (4, .int x4), (5, .int (x5 + 1))]) 5 dX9_fill_66 rfl rfl (by decide) rfl ?_
      refine E_goto (tgt := 41) dX9_fill_69 (by decide) ?_
      exact EvV.tr hB hE1

set_option maxRecDepth 20000 in
set_option maxHeartbeats 2000000 in
theorem kX9_fill_72 {K : KT} {G : St} {Q : St → Prop} {h1 : Nat} {x3 : Int32} {x4 : Int32} (hL : Lay G.2.2) (hh1 : h1 = 39 ∨ h1 = 49)
    (hB : EvV K mX9_fill 4 29 [(0, .ref 11), (1, .ref h1), (2, .ref 14), (3, .int x3), (4, .int (x4 + 1))] [] G Q) :
    EvV K mX9_fill 4 72 [(0, .ref 11), (1, .ref h1), (2, .ref 14), (3, .int x3), (4, .int x4)] [] G Q := by
  refine E_iinc (v := x4 + 1) (lv' := [(0, .ref 11), (1, .ref h1), (2, .ref 14), (3, .int x3), (4, .int (x4 + 1))]) 4 dX9_fill_72 rfl rfl (by decide) rfl ?_
  refine E_goto (tgt := 29) dX9_fill_75 (by decide) ?_
  exact EvV.tr hB rfl

set_option maxRecDepth 20000 in
set_option maxHeartbeats 2000000 in
theorem kX9_fill_81 {K : KT} {G : St} {Q : St → Prop} {h1 : Nat} {x3 : Int32} {x4 : Int32} (hL : Lay G.2.2) (hh1 : h1 = 39 ∨ h1 = 49)
    (hB : (((sI G 14 4) ≤ x4 → Q G) ∧ (¬ (sI G 14 4) ≤ x4 → EvI K mX2_letFrom 0 0 [(0, .ref 14), (1, .int x4)] [] G (fun r1 G1 => EvI K mX2_letTo 0 0 [(0, .ref 14), (1, .int x4)] [] G1 (fun r2 G2 => EvV K mX9_addLet 3 0 [(0, .ref 11), (1, .ref h1), (2, .int x3), (3, .int r1), (4, .int r2)] [] G2 (fun G3 => EvV K mX9_fill 4 81 [(0, .ref 11), (1, .ref h1), (2, .ref 14), (3, .int x3), (4, .int (x4 + 1))] [] G3 Q)))))) :
    EvV K mX9_fill 4 81 [(0, .ref 11), (1, .ref h1), (2, .ref 14), (3, .int x3), (4, .int x4)] [] G Q := by
  refine E_iload 4 dX9_fill_81 rfl ?_
  refine E_aload_n 2 dX9_fill_83 rfl rfl rfl ?_
  refine E_gI (v := sI G 14 4) fG_X9_40 rfl (lo_14 hL) rfl dX9_fill_84 ?_
  refine E_icmp_ge (tgt := 114) dX9_fill_87 (by decide) (fun c => ?_) (fun c => ?_)
  · have hB := hB.1 c
    exact E_vret rfl dX9_fill_114 ⟨rfl, rfl, hB⟩
  · have hB := hB.2 c
    refine E_aload_n 0 dX9_fill_90 rfl rfl rfl ?_
    refine E_aload_n 1 dX9_fill_91 rfl rfl rfl ?_
    refine E_iload_n 3 dX9_fill_92 rfl rfl ?_
    refine E_aload_n 2 dX9_fill_93 rfl rfl rfl ?_
    refine E_iload 4 dX9_fill_94 rfl ?_
    refine E_cV (ci := 2) (as := [.int x4]) (st := [.int x3, .ref h1, .ref 11]) cm_X2_letFrom cV_X9_45 ⟨_, _, rfl⟩ (by decide) (lo_14 hL) rfl rfl (by decide) (Nat.le_of_ble_eq_true rfl) (Nat.le_of_ble_eq_true rfl) dX9_fill_96 hB (fun r G1 hr => ?_)
    obtain ⟨r1, rfl, hE1, hB⟩ := hr
    have hL1 : Lay G1.2.2 := by rw [hE1]; exact hL
    have hE1 : G1.2.2 = G.2.2 := hE1
    show Ev K mX9_fill 4 99 [(0, .ref 11), (1, .ref h1), (2, .ref 14), (3, .int x3), (4, .int x4)] [.int r1, .int x3, .ref h1, .ref 11] G1 _
    refine E_aload_n 2 dX9_fill_99 rfl rfl rfl ?_
    refine E_iload 4 dX9_fill_100 rfl ?_
    refine E_cV (ci := 2) (as := [.int x4]) (st := [.int r1, .int x3, .ref h1, .ref 11]) cm_X2_letTo cV_X9_49 ⟨_, _, rfl⟩ (by decide) (lo_14 hL1) rfl rfl (by decide) (Nat.le_of_ble_eq_true rfl) (Nat.le_of_ble_eq_true rfl) dX9_fill_102 hB (fun r G2 hr => ?_)
    obtain ⟨r2, rfl, hE2, hB⟩ := hr
    have hL2 : Lay G2.2.2 := by rw [hE2]; exact hL1
    have hE2 : G2.2.2 = G.2.2 := hE2.trans hE1
    show Ev K mX9_fill 4 105 [(0, .ref 11), (1, .ref h1), (2, .ref 14), (3, .int x3), (4, .int x4)] [.int r2, .int r1, .int x3, .ref h1, .ref 11] G2 _
    refine E_cV (ci := 9) (as := [.ref h1, .int x3, .int r1, .int r2]) (st := []) cm_X9_addLet cV_X9_52 ⟨_, _, rfl⟩ (by decide) (lo_11 hL2) rfl rfl (by decide) (Nat.le_of_ble_eq_true rfl) (Nat.le_of_ble_eq_true rfl) dX9_fill_105 hB (fun r G3 hr => ?_)
    obtain ⟨rfl, hE3, hB⟩ := hr
    have hL3 : Lay G3.2.2 := by rw [hE3]; exact hL2
    have hE3 : G3.2.2 = G.2.2 := hE3.trans hE2
    show Ev K mX9_fill 4 108 [(0, .ref 11), (1, .ref h1), (2, .ref 14), (3, .int x3), (4, .int x4)] [] G3 _
    refine E_iinc (v := x4 + 1) (lv' := [(0, .ref 11), (1, .ref h1), (2, .ref 14), (3, .int x3), (4, .int (x4 + 1))]) 4 dX9_fill_108 rfl rfl (by decide) rfl ?_
    refine E_goto (tgt := 81) dX9_fill_111 (by decide) ?_
    exact EvV.tr hB hE3

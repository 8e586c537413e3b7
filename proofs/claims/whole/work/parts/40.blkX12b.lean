set_option maxRecDepth 20000 in
set_option maxHeartbeats 2000000 in
theorem kX12_termsOf_0 {K : KT} {G : St} {Q : Int32 → St → Prop} {x1 : Int32} (hL : Lay G.2.2) 
    (hB : EvI K mX12_termsOf 1 4 [(0, .ref 66), (1, .int x1), (2, .int 0), (3, .int 0)] [] G Q) :
    EvI K mX12_termsOf 1 0 [(0, .ref 66), (1, .int x1)] [] G Q := by
  refine E_iconst (v := 0) dX12_termsOf_0 (by decide) ?_
  refine E_istore_n (lv' := [(0, .ref 66), (1, .int x1), (2, .int 0)]) dX12_termsOf_1 rfl (by decide) rfl ?_
  refine E_iconst (v := 0) dX12_termsOf_2 (by decide) ?_
  refine E_istore_n (lv' := [(0, .ref 66), (1, .int x1), (2, .int 0), (3, .int 0)]) dX12_termsOf_3 rfl (by decide) rfl ?_
  exact EvI.tr hB rfl

set_option maxRecDepth 20000 in
set_option maxHeartbeats 2000000 in
theorem kX12_termsOf_4 {K : KT} {G : St} {Q : Int32 → St → Prop} {x1 : Int32} {x2 : Int32} {x3 : Int32} (hL : Lay G.2.2) 
    (hB : (((sI G 66 20) ≤ x3 → Q x2 G) ∧ (¬ (sI G 66 20) ≤ x3 → EvI K mX12_holderIn 0 0 [(0, .ref 66), (1, .int x1), (2, .int x3)] [] G (fun r1 G1 => vp_in ((4 * r1) + x3) 120 ∧ EvI K mX12_termsOf 1 4 [(0, .ref 66), (1, .int x1), (2, .int (x2 + (sI G1 89 (Int32.toNatClampNeg ((4 * r1) + x3))))), (3, .int (x3 + 1))] [] G1 Q)))) :
    EvI K mX12_termsOf 1 4 [(0, .ref 66), (1, .int x1), (2, .int x2), (3, .int x3)] [] G Q := by
  refine E_iload_n 3 dX12_termsOf_4 rfl rfl ?_
  refine E_aload_n 0 dX12_termsOf_5 rfl rfl rfl ?_
  refine E_gI (v := sI G 66 20) fG_X12_226 rfl (lo_66 hL) rfl dX12_termsOf_6 ?_
  refine E_icmp_ge (tgt := 36) dX12_termsOf_9 (by decide) (fun c => ?_) (fun c => ?_)
  · have hB := hB.1 c
    refine E_iload_n 2 dX12_termsOf_36 rfl rfl ?_
    exact E_iret rfl dX12_termsOf_37 ⟨_, rfl, rfl, hB⟩
  · have hB := hB.2 c
    refine E_iload_n 2 dX12_termsOf_12 rfl rfl ?_
    refine E_aload_n 0 dX12_termsOf_13 rfl rfl rfl ?_
    refine E_gR (j := 89) fG_X12_105 rfl (lo_66 hL) (lr_66_36 hL) (by decide) dX12_termsOf_14 ?_
    refine E_iconst (v := 4) dX12_termsOf_17 (by decide) ?_
    refine E_aload_n 0 dX12_termsOf_18 rfl rfl rfl ?_
    refine E_iload_n 1 dX12_termsOf_19 rfl rfl ?_
    refine E_iload_n 3 dX12_termsOf_20 rfl rfl ?_
    refine E_cV (ci := 11) (as := [.int x1, .int x3]) (st := [.int 4, .ref 89, .int x2]) cm_X12_holderIn cV_X12_360 ⟨_, _, rfl⟩ (by decide) (lo_66 hL) rfl rfl (by decide) (Nat.le_of_ble_eq_true rfl) (Nat.le_of_ble_eq_true rfl) dX12_termsOf_21 hB (fun r G1 hr => ?_)
    obtain ⟨r1, rfl, hE1, hB⟩ := hr
    have hL1 : Lay G1.2.2 := by rw [hE1]; exact hL
    have hE1 : G1.2.2 = G.2.2 := hE1
    show Ev K mX12_termsOf 1 24 [(0, .ref 66), (1, .int x1), (2, .int x2), (3, .int x3)] [.int r1, .int 4, .ref 89, .int x2] G1 _
    refine E_imul dX12_termsOf_24 ?_
    refine E_iload_n 3 dX12_termsOf_25 rfl rfl ?_
    refine E_iadd dX12_termsOf_26 ?_
    obtain ⟨qq2, hB⟩ := hB
    refine E_aI (p := Int32.toNatClampNeg ((4 * r1) + x3)) (v := sI G1 89 (Int32.toNatClampNeg ((4 * r1) + x3))) (la_89 hL1) qq2 rfl rfl dX12_termsOf_27 ?_
    refine E_iadd dX12_termsOf_28 ?_
    refine E_istore_n (lv' := [(0, .ref 66), (1, .int x1), (2, .int (x2 + (sI G1 89 (Int32.toNatClampNeg ((4 * r1) + x3))))), (3, .int x3)]) dX12_termsOf_29 rfl (by decide) rfl ?_
    refine E_iinc (v := x3 + 1) (lv' := [(0, .ref 66), (1, .int x1), (2, .int (x2 + (sI G1 89 (Int32.toNatClampNeg ((4 * r1) + x3))))), (3, .int (x3 + 1))]) 3 dX12_termsOf_30 rfl rfl (by decide) rfl ?_
    refine E_goto (tgt := 4) dX12_termsOf_33 (by decide) ?_
    exact EvI.tr hB hE1

set_option maxRecDepth 20000 in
set_option maxHeartbeats 2000000 in
theorem kX12_nextOf_0 {K : KT} {G : St} {Q : Int32 → St → Prop} {x0 : Int32} (hL : Lay G.2.2) 
    (hB : EvI K mX12_nextOf 0 18 [(2, .int (x0 + (x0 &&& (-x0)))), (3, .int ((x0 ^^^ (x0 + (x0 &&& (-x0)))) >>> (2 &&& 31))), (4, .int (x0 &&& (-x0)))] [] G Q) :
    EvI K mX12_nextOf 0 0 [(0, .int x0)] [] G Q := by
  refine E_iload_n 0 dX12_nextOf_0 rfl rfl ?_
  refine E_iload_n 0 dX12_nextOf_1 rfl rfl ?_
  refine E_ineg dX12_nextOf_2 ?_
  refine E_iand dX12_nextOf_3 ?_
  refine E_istore_n (lv' := [(0, .int x0), (1, .int (x0 &&& (-x0)))]) dX12_nextOf_4 rfl (by decide) rfl ?_
  refine E_iload_n 0 dX12_nextOf_5 rfl rfl ?_
  refine E_iload_n 1 dX12_nextOf_6 rfl rfl ?_
  refine E_iadd dX12_nextOf_7 ?_
  refine E_istore_n (lv' := [(0, .int x0), (1, .int (x0 &&& (-x0))), (2, .int (x0 + (x0 &&& (-x0))))]) dX12_nextOf_8 rfl (by decide) rfl ?_
  refine E_iload_n 0 dX12_nextOf_9 rfl rfl ?_
  refine E_iload_n 2 dX12_nextOf_10 rfl rfl ?_
  refine E_ixor dX12_nextOf_11 ?_
  refine E_iconst (v := 2) dX12_nextOf_12 (by decide) ?_
  refine E_ishr dX12_nextOf_13 ?_
  refine E_istore_n (lv' := [(0, .int x0), (1, .int (x0 &&& (-x0))), (2, .int (x0 + (x0 &&& (-x0)))), (3, .int ((x0 ^^^ (x0 + (x0 &&& (-x0)))) >>> (2 &&& 31)))]) dX12_nextOf_14 rfl (by decide) rfl ?_
  refine E_iload_n 1 dX12_nextOf_15 rfl rfl ?_
  refine E_istore (lv' := [(0, .int x0), (1, .int (x0 &&& (-x0))), (2, .int (x0 + (x0 &&& (-x0)))), (3, .int ((x0 ^^^ (x0 + (x0 &&& (-x0)))) >>> (2 &&& 31))), (4, .int (x0 &&& (-x0)))]) dX12_nextOf_16 (by decide) rfl ?_
  refine E_sub (lv' := [(2, .int (x0 + (x0 &&& (-x0)))), (3, .int ((x0 ^^^ (x0 + (x0 &&& (-x0)))) >>> (2 &&& 31))), (4, .int (x0 &&& (-x0)))]) [2, 3, 4] rfl ?_
  exact EvI.tr hB rfl

set_option maxRecDepth 20000 in
set_option maxHeartbeats 2000000 in
theorem kX12_nextOf_18 {K : KT} {G : St} {Q : Int32 → St → Prop} {x2 : Int32} {x3 : Int32} {x4 : Int32} (hL : Lay G.2.2) 
    (hB : ((x4 ≤ 1 → Q (x2 ||| x3) G) ∧ (¬ x4 ≤ 1 → EvI K mX12_nextOf 0 18 [(2, .int x2), (3, .int (x3 >>> (1 &&& 31))), (4, .int (x4 >>> (1 &&& 31)))] [] G Q))) :
    EvI K mX12_nextOf 0 18 [(2, .int x2), (3, .int x3), (4, .int x4)] [] G Q := by
  refine E_iload 2 dX12_nextOf_18 rfl ?_
  refine E_iconst (v := 1) dX12_nextOf_20 (by decide) ?_
  refine E_icmp_le (tgt := 37) dX12_nextOf_21 (by decide) (fun c => ?_) (fun c => ?_)
  · have hB := hB.1 c
    refine E_iload_n 0 dX12_nextOf_37 rfl rfl ?_
    refine E_iload_n 1 dX12_nextOf_38 rfl rfl ?_
    refine E_ior dX12_nextOf_39 ?_
    exact E_iret rfl dX12_nextOf_40 ⟨_, rfl, rfl, hB⟩
  · have hB := hB.2 c
    refine E_iload_n 1 dX12_nextOf_24 rfl rfl ?_
    refine E_iconst (v := 1) dX12_nextOf_25 (by decide) ?_
    refine E_ishr dX12_nextOf_26 ?_
    refine E_istore_n (lv' := [(2, .int x2), (3, .int (x3 >>> (1 &&& 31))), (4, .int x4)]) dX12_nextOf_27 rfl (by decide) rfl ?_
    refine E_iload 2 dX12_nextOf_28 rfl ?_
    refine E_iconst (v := 1) dX12_nextOf_30 (by decide) ?_
    refine E_ishr dX12_nextOf_31 ?_
    refine E_istore (lv' := [(2, .int x2), (3, .int (x3 >>> (1 &&& 31))), (4, .int (x4 >>> (1 &&& 31)))]) dX12_nextOf_32 (by decide) rfl ?_
    refine E_goto (tgt := 18) dX12_nextOf_34 (by decide) ?_
    exact EvI.tr hB rfl

set_option maxRecDepth 20000 in
set_option maxHeartbeats 2000000 in
theorem kX12_codeOf_0 {K : KT} {G : St} {Q : Int32 → St → Prop} {x1 : Int32} (hL : Lay G.2.2) 
    (hB : EvI K mX12_codeOf 1 4 [(0, .ref 66), (1, .int x1), (2, .int 0), (3, .int 4)] [] G Q) :
    EvI K mX12_codeOf 1 0 [(0, .ref 66), (1, .int x1)] [] G Q := by
  refine E_iconst (v := 0) dX12_codeOf_0 (by decide) ?_
  refine E_istore_n (lv' := [(0, .ref 66), (1, .int x1), (2, .int 0)]) dX12_codeOf_1 rfl (by decide) rfl ?_
  refine E_iconst (v := 4) dX12_codeOf_2 (by decide) ?_
  refine E_istore_n (lv' := [(0, .ref 66), (1, .int x1), (2, .int 0), (3, .int 4)]) dX12_codeOf_3 rfl (by decide) rfl ?_
  exact EvI.tr hB rfl

set_option maxRecDepth 20000 in
set_option maxHeartbeats 2000000 in
theorem kX12_codeOf_4 {K : KT} {G : St} {Q : Int32 → St → Prop} {x1 : Int32} {x2 : Int32} {x3 : Int32} (hL : Lay G.2.2) 
    (hB : ((x3 < 0 → EvI K mX12_codeOf 1 76 [(0, .ref 66), (1, .int x1), (2, .int x2), (3, .int 0)] [] G Q) ∧ (¬ x3 < 0 → EvI K mX12_codeOf 1 14 [(0, .ref 66), (1, .int x1), (2, .int x2), (3, .int x3), (4, .int 0), (5, .int 0)] [] G Q))) :
    EvI K mX12_codeOf 1 4 [(0, .ref 66), (1, .int x1), (2, .int x2), (3, .int x3)] [] G Q := by
  refine E_iload_n 3 dX12_codeOf_4 rfl rfl ?_
  refine E_if_lt (tgt := 74) dX12_codeOf_5 (by decide) (fun c => ?_) (fun c => ?_)
  · have hB := hB.1 c
    refine E_iconst (v := 0) dX12_codeOf_74 (by decide) ?_
    refine E_istore_n (lv' := [(0, .ref 66), (1, .int x1), (2, .int x2), (3, .int 0)]) dX12_codeOf_75 rfl (by decide) rfl ?_
    exact EvI.tr hB rfl
  · have hB := hB.2 c
    refine E_iconst (v := 0) dX12_codeOf_8 (by decide) ?_
    refine E_istore (lv' := [(0, .ref 66), (1, .int x1), (2, .int x2), (3, .int x3), (4, .int 0)]) dX12_codeOf_9 (by decide) rfl ?_
    refine E_iconst (v := 0) dX12_codeOf_11 (by decide) ?_
    refine E_istore (lv' := [(0, .ref 66), (1, .int x1), (2, .int x2), (3, .int x3), (4, .int 0), (5, .int 0)]) dX12_codeOf_12 (by decide) rfl ?_
    exact EvI.tr hB rfl

set_option maxRecDepth 20000 in
set_option maxHeartbeats 2000000 in
theorem kX12_codeOf_14 {K : KT} {G : St} {Q : Int32 → St → Prop} {x1 : Int32} {x2 : Int32} {x3 : Int32} {x4 : Int32} {x5 : Int32} (hL : Lay G.2.2) 
    (hB : (((sI G 66 16) ≤ x5 → EvI K mX12_codeOf 1 4 [(0, .ref 66), (1, .int x1), (2, .int ((6 * x2) + x4)), (3, .int (x3 + (-1)))] [] G Q) ∧ (¬ (sI G 66 16) ≤ x5 → ((¬ ((x1 >>> (x5 &&& 31)) &&& 1) = 1 → EvI K mX12_codeOf 1 50 [(0, .ref 66), (1, .int x1), (2, .int x2), (3, .int x3), (5, .int x5)] [.int x4] G Q) ∧ (((x1 >>> (x5 &&& 31)) &&& 1) = 1 → vp_in x5 31 ∧ ((¬ (sI G 77 (Int32.toNatClampNeg x5)) = x3 → EvI K mX12_codeOf 1 50 [(0, .ref 66), (1, .int x1), (2, .int x2), (3, .int x3), (5, .int x5)] [.int x4] G Q) ∧ ((sI G 77 (Int32.toNatClampNeg x5)) = x3 → EvI K mX12_codeOf 1 51 [(0, .ref 66), (1, .int x1), (2, .int x2), (3, .int x3), (5, .int x5)] [.int 1, .int x4] G Q))))))) :
    EvI K mX12_codeOf 1 14 [(0, .ref 66), (1, .int x1), (2, .int x2), (3, .int x3), (4, .int x4), (5, .int x5)] [] G Q := by
  refine E_iload 5 dX12_codeOf_14 rfl ?_
  refine E_aload_n 0 dX12_codeOf_16 rfl rfl rfl ?_
  refine E_gI (v := sI G 66 16) fG_X12_223 rfl (lo_66 hL) rfl dX12_codeOf_17 ?_
  refine E_icmp_ge (tgt := 60) dX12_codeOf_20 (by decide) (fun c => ?_) (fun c => ?_)
  · have hB := hB.1 c
    refine E_bipush (v := 6) dX12_codeOf_60 (by decide) ?_
    refine E_iload_n 2 dX12_codeOf_62 rfl rfl ?_
    refine E_imul dX12_codeOf_63 ?_
    refine E_iload 4 dX12_codeOf_64 rfl ?_
    refine E_iadd dX12_codeOf_66 ?_
    refine E_istore_n (lv' := [(0, .ref 66), (1, .int x1), (2, .int ((6 * x2) + x4)), (3, .int x3), (4, .int x4), (5, .int x5)]) dX12_codeOf_67 rfl (by decide) rfl ?_
    refine E_iinc (v := x3 + (-1)) (lv' := [(0, .ref 66), (1, .int x1), (2, .int ((6 * x2) + x4)), (3, .int (x3 + (-1))), (4, .int x4), (5, .int x5)]) 3 dX12_codeOf_68 rfl rfl (by decide) rfl ?_
    refine E_goto (tgt := 4) dX12_codeOf_71 (by decide) ?_
    refine E_sub (lv' := [(0, .ref 66), (1, .int x1), (2, .int ((6 * x2) + x4)), (3, .int (x3 + (-1)))]) [0, 1, 2, 3] rfl ?_
    exact EvI.tr hB rfl
  · have hB := hB.2 c
    refine E_iload 4 dX12_codeOf_23 rfl ?_
    refine E_iload_n 1 dX12_codeOf_25 rfl rfl ?_
    refine E_iload 5 dX12_codeOf_26 rfl ?_
    refine E_ishr dX12_codeOf_28 ?_
    refine E_iconst (v := 1) dX12_codeOf_29 (by decide) ?_
    refine E_iand dX12_codeOf_30 ?_
    refine E_iconst (v := 1) dX12_codeOf_31 (by decide) ?_
    refine E_icmp_ne (tgt := 50) dX12_codeOf_32 (by decide) (fun c => ?_) (fun c => ?_)
    · have hB := hB.1 c
      refine E_sub (lv' := [(0, .ref 66), (1, .int x1), (2, .int x2), (3, .int x3), (5, .int x5)]) [0, 1, 2, 3, 5] rfl ?_
      exact EvI.tr hB rfl
    · have hB := hB.2 c
      refine E_aload_n 0 dX12_codeOf_35 rfl rfl rfl ?_
      refine E_gR (j := 77) fG_X12_68 rfl (lo_66 hL) (lr_66_18 hL) (by decide) dX12_codeOf_36 ?_
      refine E_iload 5 dX12_codeOf_39 rfl ?_
      obtain ⟨qq1, hB⟩ := hB
      refine E_aI (p := Int32.toNatClampNeg x5) (v := sI G 77 (Int32.toNatClampNeg x5)) (la_77 hL) qq1 rfl rfl dX12_codeOf_41 ?_
      refine E_iload_n 3 dX12_codeOf_42 rfl rfl ?_
      refine E_icmp_ne (tgt := 50) dX12_codeOf_43 (by decide) (fun c => ?_) (fun c => ?_)
      · have hB := hB.1 c
        refine E_sub (lv' := [(0, .ref 66), (1, .int x1), (2, .int x2), (3, .int x3), (5, .int x5)]) [0, 1, 2, 3, 5] rfl ?_
        exact EvI.tr hB rfl
      · have hB := hB.2 c
        refine E_iconst (v := 1) dX12_codeOf_46 (by decide) ?_
        refine E_goto (tgt := 51) dX12_codeOf_47 (by decide) ?_
        refine E_sub (lv' := [(0, .ref 66), (1, .int x1), (2, .int x2), (3, .int x3), (5, .int x5)]) [0, 1, 2, 3, 5] rfl ?_
        exact EvI.tr hB rfl

set_option maxRecDepth 20000 in
set_option maxHeartbeats 2000000 in
theorem kX12_codeOf_50 {K : KT} {G : St} {Q : Int32 → St → Prop} {x1 : Int32} {x2 : Int32} {x3 : Int32} {x5 : Int32} {xs0 : Int32} (hL : Lay G.2.2) 
    (hB : EvI K mX12_codeOf 1 51 [(0, .ref 66), (1, .int x1), (2, .int x2), (3, .int x3), (5, .int x5)] [.int 0, .int xs0] G Q) :
    EvI K mX12_codeOf 1 50 [(0, .ref 66), (1, .int x1), (2, .int x2), (3, .int x3), (5, .int x5)] [.int xs0] G Q := by
  refine E_iconst (v := 0) dX12_codeOf_50 (by decide) ?_
  exact EvI.tr hB rfl

set_option maxRecDepth 20000 in
set_option maxHeartbeats 2000000 in
theorem kX12_codeOf_51 {K : KT} {G : St} {Q : Int32 → St → Prop} {x1 : Int32} {x2 : Int32} {x3 : Int32} {x5 : Int32} {xs0 : Int32} {xs1 : Int32} (hL : Lay G.2.2) 
    (hB : EvI K mX12_codeOf 1 14 [(0, .ref 66), (1, .int x1), (2, .int x2), (3, .int x3), (4, .int (xs0 + xs1)), (5, .int (x5 + 1))] [] G Q) :
    EvI K mX12_codeOf 1 51 [(0, .ref 66), (1, .int x1), (2, .int x2), (3, .int x3), (5, .int x5)] [.int xs1, .int xs0] G Q := by
  refine E_iadd dX12_codeOf_51 ?_
  refine E_istore (lv' := [(0, .ref 66), (1, .int x1), (2, .int x2), (3, .int x3), (4, .int (xs0 + xs1)), (5, .int x5)]) dX12_codeOf_52 (by decide) rfl ?_
  refine E_iinc (v := x5 + 1) (lv' := [(0, .ref 66), (1, .int x1), (2, .int x2), (3, .int x3), (4, .int (xs0 + xs1)), (5, .int (x5 + 1))]) 5 dX12_codeOf_54 rfl rfl (by decide) rfl ?_
  refine E_goto (tgt := 14) dX12_codeOf_57 (by decide) ?_
  exact EvI.tr hB rfl

set_option maxRecDepth 20000 in
set_option maxHeartbeats 2000000 in
theorem kX12_codeOf_76 {K : KT} {G : St} {Q : Int32 → St → Prop} {x1 : Int32} {x2 : Int32} {x3 : Int32} (hL : Lay G.2.2) 
    (hB : ((4 ≤ x3 → Q x2 G) ∧ (¬ 4 ≤ x3 → (((sI G 66 20) ≤ x3 → EvI K mX12_codeOf 1 107 [(0, .ref 66), (1, .int x1), (3, .int x3)] [.int 0, .int (5 * x2)] G Q) ∧ (¬ (sI G 66 20) ≤ x3 → EvI K mX12_holderIn 0 0 [(0, .ref 66), (1, .int x1), (2, .int x3)] [] G (fun r1 G1 => vp_in r1 31 ∧ EvI K mX12_codeOf 1 107 [(0, .ref 66), (1, .int x1), (3, .int x3)] [.int (sI G1 77 (Int32.toNatClampNeg r1)), .int (5 * x2)] G1 Q)))))) :
    EvI K mX12_codeOf 1 76 [(0, .ref 66), (1, .int x1), (2, .int x2), (3, .int x3)] [] G Q := by
  refine E_iload_n 3 dX12_codeOf_76 rfl rfl ?_
  refine E_iconst (v := 4) dX12_codeOf_77 (by decide) ?_
  refine E_icmp_ge (tgt := 115) dX12_codeOf_78 (by decide) (fun c => ?_) (fun c => ?_)
  · have hB := hB.1 c
    refine E_iload_n 2 dX12_codeOf_115 rfl rfl ?_
    exact E_iret rfl dX12_codeOf_116 ⟨_, rfl, rfl, hB⟩
  · have hB := hB.2 c
    refine E_iconst (v := 5) dX12_codeOf_81 (by decide) ?_
    refine E_iload_n 2 dX12_codeOf_82 rfl rfl ?_
    refine E_imul dX12_codeOf_83 ?_
    refine E_iload_n 3 dX12_codeOf_84 rfl rfl ?_
    refine E_aload_n 0 dX12_codeOf_85 rfl rfl rfl ?_
    refine E_gI (v := sI G 66 20) fG_X12_226 rfl (lo_66 hL) rfl dX12_codeOf_86 ?_
    refine E_icmp_ge (tgt := 106) dX12_codeOf_89 (by decide) (fun c => ?_) (fun c => ?_)
    · have hB := hB.1 c
      refine E_iconst (v := 0) dX12_codeOf_106 (by decide) ?_
      refine E_sub (lv' := [(0, .ref 66), (1, .int x1), (3, .int x3)]) [0, 1, 3] rfl ?_
      exact EvI.tr hB rfl
    · have hB := hB.2 c
      refine E_aload_n 0 dX12_codeOf_92 rfl rfl rfl ?_
      refine E_gR (j := 77) fG_X12_68 rfl (lo_66 hL) (lr_66_18 hL) (by decide) dX12_codeOf_93 ?_
      refine E_aload_n 0 dX12_codeOf_96 rfl rfl rfl ?_
      refine E_iload_n 1 dX12_codeOf_97 rfl rfl ?_
      refine E_iload_n 3 dX12_codeOf_98 rfl rfl ?_
      refine E_cV (ci := 11) (as := [.int x1, .int x3]) (st := [.ref 77, .int (5 * x2)]) cm_X12_holderIn cV_X12_360 ⟨_, _, rfl⟩ (by decide) (lo_66 hL) rfl rfl (by decide) (Nat.le_of_ble_eq_true rfl) (Nat.le_of_ble_eq_true rfl) dX12_codeOf_99 hB (fun r G1 hr => ?_)
      obtain ⟨r1, rfl, hE1, hB⟩ := hr
      have hL1 : Lay G1.2.2 := by rw [hE1]; exact hL
      have hE1 : G1.2.2 = G.2.2 := hE1
      show Ev K mX12_codeOf 1 102 [(0, .ref 66), (1, .int x1), (2, .int x2), (3, .int x3)] [.int r1, .ref 77, .int (5 * x2)] G1 _
      obtain ⟨qq2, hB⟩ := hB
      refine E_aI (p := Int32.toNatClampNeg r1) (v := sI G1 77 (Int32.toNatClampNeg r1)) (la_77 hL1) qq2 rfl rfl dX12_codeOf_102 ?_
      refine E_goto (tgt := 107) dX12_codeOf_103 (by decide) ?_
      refine E_sub (lv' := [(0, .ref 66), (1, .int x1), (3, .int x3)]) [0, 1, 3] rfl ?_
      exact EvI.tr hB hE1

set_option maxRecDepth 20000 in
set_option maxHeartbeats 2000000 in
theorem kX12_codeOf_107 {K : KT} {G : St} {Q : Int32 → St → Prop} {x1 : Int32} {x3 : Int32} {xs0 : Int32} {xs1 : Int32} (hL : Lay G.2.2) 
    (hB : EvI K mX12_codeOf 1 76 [(0, .ref 66), (1, .int x1), (2, .int (xs0 + xs1)), (3, .int (x3 + 1))] [] G Q) :
    EvI K mX12_codeOf 1 107 [(0, .ref 66), (1, .int x1), (3, .int x3)] [.int xs1, .int xs0] G Q := by
  refine E_iadd dX12_codeOf_107 ?_
  refine E_istore_n (lv' := [(0, .ref 66), (1, .int x1), (2, .int (xs0 + xs1)), (3, .int x3)]) dX12_codeOf_108 rfl (by decide) rfl ?_
  refine E_iinc (v := x3 + 1) (lv' := [(0, .ref 66), (1, .int x1), (2, .int (xs0 + xs1)), (3, .int (x3 + 1))]) 3 dX12_codeOf_109 rfl rfl (by decide) rfl ?_
  refine E_goto (tgt := 76) dX12_codeOf_112 (by decide) ?_
  exact EvI.tr hB rfl

set_option maxRecDepth 20000 in
set_option maxHeartbeats 2000000 in
theorem kX12_questionOf_0 {K : KT} {G : St} {Q : Int32 → St → Prop} {x1 : Int32} (hL : Lay G.2.2) 
    (hB : vp_in (x1 - x1 / 4099 * 4099) 4099 ∧ EvI K mX12_questionOf 0 11 [(0, .ref 66), (1, .int x1), (2, .int (sI G 94 (Int32.toNatClampNeg (x1 - x1 / 4099 * 4099))))] [] G Q) :
    EvI K mX12_questionOf 0 0 [(0, .ref 66), (1, .int x1)] [] G Q := by
  refine E_aload_n 0 dX12_questionOf_0 rfl rfl rfl ?_
  refine E_gR (j := 94) fG_X12_121 rfl (lo_66 hL) (lr_66_44 hL) (by decide) dX12_questionOf_1 ?_
  refine E_iload_n 1 dX12_questionOf_4 rfl rfl ?_
  refine E_sipush (v := 4099) dX12_questionOf_5 (by decide) ?_
  refine E_irem dX12_questionOf_8 (by decide) ?_
  obtain ⟨qq1, hB⟩ := hB
  refine E_aI (p := Int32.toNatClampNeg (x1 - x1 / 4099 * 4099)) (v := sI G 94 (Int32.toNatClampNeg (x1 - x1 / 4099 * 4099))) (la_94 hL) qq1 rfl rfl dX12_questionOf_9 ?_
  refine E_istore_n (lv' := [(0, .ref 66), (1, .int x1), (2, .int (sI G 94 (Int32.toNatClampNeg (x1 - x1 / 4099 * 4099))))]) dX12_questionOf_10 rfl (by decide) rfl ?_
  exact EvI.tr hB rfl

set_option maxRecDepth 20000 in
set_option maxHeartbeats 2000000 in
theorem kX12_questionOf_11 {K : KT} {G : St} {Q : Int32 → St → Prop} {x1 : Int32} {x2 : Int32} (hL : Lay G.2.2) 
    (hB : ((x2 < 0 → Q x2 G) ∧ (¬ x2 < 0 → vp_in x2 60000 ∧ (((sI G 96 (Int32.toNatClampNeg x2)) = x1 → Q x2 G) ∧ (¬ (sI G 96 (Int32.toNatClampNeg x2)) = x1 → vp_in x2 60000 ∧ EvI K mX12_questionOf 0 11 [(0, .ref 66), (1, .int x1), (2, .int (sI G 95 (Int32.toNatClampNeg x2)))] [] G Q))))) :
    EvI K mX12_questionOf 0 11 [(0, .ref 66), (1, .int x1), (2, .int x2)] [] G Q := by
  refine E_iload_n 2 dX12_questionOf_11 rfl rfl ?_
  refine E_if_lt (tgt := 35) dX12_questionOf_12 (by decide) (fun c => ?_) (fun c => ?_)
  · have hB := hB.1 c
    refine E_iload_n 2 dX12_questionOf_35 rfl rfl ?_
    exact E_iret rfl dX12_questionOf_36 ⟨_, rfl, rfl, hB⟩
  · have hB := hB.2 c
    refine E_aload_n 0 dX12_questionOf_15 rfl rfl rfl ?_
    refine E_gR (j := 96) fG_X12_128 rfl (lo_66 hL) (lr_66_46 hL) (by decide) dX12_questionOf_16 ?_
    refine E_iload_n 2 dX12_questionOf_19 rfl rfl ?_
    obtain ⟨qq1, hB⟩ := hB
    refine E_aI (p := Int32.toNatClampNeg x2) (v := sI G 96 (Int32.toNatClampNeg x2)) (la_96 hL) qq1 rfl rfl dX12_questionOf_20 ?_
    refine E_iload_n 1 dX12_questionOf_21 rfl rfl ?_
    refine E_icmp_eq (tgt := 35) dX12_questionOf_22 (by decide) (fun c => ?_) (fun c => ?_)
    · have hB := hB.1 c
      refine E_iload_n 2 dX12_questionOf_35 rfl rfl ?_
      exact E_iret rfl dX12_questionOf_36 ⟨_, rfl, rfl, hB⟩
    · have hB := hB.2 c
      refine E_aload_n 0 dX12_questionOf_25 rfl rfl rfl ?_
      refine E_gR (j := 95) fG_X12_125 rfl (lo_66 hL) (lr_66_45 hL) (by decide) dX12_questionOf_26 ?_
      refine E_iload_n 2 dX12_questionOf_29 rfl rfl ?_
      obtain ⟨qq2, hB⟩ := hB
      refine E_aI (p := Int32.toNatClampNeg x2) (v := sI G 95 (Int32.toNatClampNeg x2)) (la_95 hL) qq2 rfl rfl dX12_questionOf_30 ?_
      refine E_istore_n (lv' := [(0, .ref 66), (1, .int x1), (2, .int (sI G 95 (Int32.toNatClampNeg x2)))]) dX12_questionOf_31 rfl (by decide) rfl ?_
      refine E_goto (tgt := 11) dX12_questionOf_32 (by decide) ?_
      exact EvI.tr hB rfl

set_option maxRecDepth 20000 in
set_option maxHeartbeats 2000000 in
theorem kX12_findQuestions_0 {K : KT} {G : St} {Q : St → Prop}  (hL : Lay G.2.2) 
    (hB : EvV K mX12_findQuestions 2 7 [(0, .ref 66), (1, .int 0)] [] (uI G 66 43 0) Q) :
    EvV K mX12_findQuestions 2 0 [(0, .ref 66)] [] G Q := by
  refine E_aload_n 0 dX12_findQuestions_0 rfl rfl rfl ?_
  refine E_iconst (v := 0) dX12_findQuestions_1 (by decide) ?_
  refine E_pI fP_X12_397 rfl (lo_66 hL) dX12_findQuestions_2 ?_
  refine E_iconst (v := 0) dX12_findQuestions_5 (by decide) ?_
  refine E_istore_n (lv' := [(0, .ref 66), (1, .int 0)]) dX12_findQuestions_6 rfl (by decide) rfl ?_
  exact EvV.tr hB rfl

set_option maxRecDepth 20000 in
set_option maxHeartbeats 2000000 in
theorem kX12_findQuestions_7 {K : KT} {G : St} {Q : St → Prop} {x1 : Int32} (hL : Lay G.2.2) 
    (hB : ((4099 ≤ x1 → EvV K mX12_findQuestions 2 29 [(0, .ref 66), (1, .int 0)] [] G Q) ∧ (¬ 4099 ≤ x1 → vp_in x1 4099 ∧ EvV K mX12_findQuestions 2 7 [(0, .ref 66), (1, .int (x1 + 1))] [] (uI G 94 (Int32.toNatClampNeg x1) (-1)) Q))) :
    EvV K mX12_findQuestions 2 7 [(0, .ref 66), (1, .int x1)] [] G Q := by
  refine E_iload_n 1 dX12_findQuestions_7 rfl rfl ?_
  refine E_sipush (v := 4099) dX12_findQuestions_8 (by decide) ?_
  refine E_icmp_ge (tgt := 27) dX12_findQuestions_11 (by decide) (fun c => ?_) (fun c => ?_)
  · have hB := hB.1 c
    refine E_iconst (v := 0) dX12_findQuestions_27 (by decide) ?_
    refine E_istore_n (lv' := [(0, .ref 66), (1, .int 0)]) dX12_findQuestions_28 rfl (by decide) rfl ?_
    exact EvV.tr hB rfl
  · have hB := hB.2 c
    refine E_aload_n 0 dX12_findQuestions_14 rfl rfl rfl ?_
    refine E_gR (j := 94) fG_X12_121 rfl (lo_66 hL) (lr_66_44 hL) (by decide) dX12_findQuestions_15 ?_
    refine E_iload_n 1 dX12_findQuestions_18 rfl rfl ?_
    refine E_iconst (v := (-1)) dX12_findQuestions_19 (by decide) ?_
    obtain ⟨qq1, hB⟩ := hB
    refine E_sI (p := Int32.toNatClampNeg x1) (la_94 hL) qq1 rfl dX12_findQuestions_20 ?_
    refine E_iinc (v := x1 + 1) (lv' := [(0, .ref 66), (1, .int (x1 + 1))]) 1 dX12_findQuestions_21 rfl rfl (by decide) rfl ?_
    refine E_goto (tgt := 7) dX12_findQuestions_24 (by decide) ?_
    exact EvV.tr hB rfl

set_option maxRecDepth 20000 in
set_option maxHeartbeats 2000000 in
theorem kX12_findQuestions_29 {K : KT} {G : St} {Q : St → Prop} {x1 : Int32} (hL : Lay G.2.2) 
    (hB : (((sI G 66 38) ≤ x1 → Q G) ∧ (¬ (sI G 66 38) ≤ x1 → vp_in x1 175000 ∧ vp_in (sI G 92 (Int32.toNatClampNeg x1)) 175000 ∧ EvI K mX12_codeOf 1 0 [(0, .ref 66), (1, .int (sI G 90 (Int32.toNatClampNeg (sI G 92 (Int32.toNatClampNeg x1)))))] [] G (fun r3 G3 => EvI K mX12_questionOf 0 0 [(0, .ref 66), (1, .int r3)] [] G3 (fun r4 G4 => ((0 ≤ r4 → EvV K mX12_findQuestions 2 126 [(0, .ref 66), (1, .int x1), (3, .int r4)] [] G4 Q) ∧ (¬ 0 ≤ r4 → vp_in (sI G4 66 43) 60000 ∧ vp_in (sI G4 66 43) 60000 ∧ vp_in (sI G4 66 43) 60000 ∧ vp_in (r3 - r3 / 4099 * 4099) 4099 ∧ vp_in (sI G4 66 43) 60000 ∧ ∀ G10 : St, G10 = (uI (uI (uI (uI G4 96 (Int32.toNatClampNeg (sI G4 66 43)) r3) 97 (Int32.toNatClampNeg (sI G4 66 43)) x1) 98 (Int32.toNatClampNeg (sI G4 66 43)) 0) 95 (Int32.toNatClampNeg (sI G4 66 43)) (sI G4 94 (Int32.toNatClampNeg (r3 - r3 / 4099 * 4099)))) → vp_in (r3 - r3 / 4099 * 4099) 4099 ∧ EvV K mX12_findQuestions 2 126 [(0, .ref 66), (1, .int x1), (3, .int (sI G4 66 43))] [] (uI (uI G10 94 (Int32.toNatClampNeg (r3 - r3 / 4099 * 4099)) (sI G4 66 43)) 66 43 ((sI G10 66 43) + 1)) Q))))))) :
    EvV K mX12_findQuestions 2 29 [(0, .ref 66), (1, .int x1)] [] G Q := by
  refine E_iload_n 1 dX12_findQuestions_29 rfl rfl ?_
  refine E_aload_n 0 dX12_findQuestions_30 rfl rfl rfl ?_
  refine E_gI (v := sI G 66 38) fG_X12_366 rfl (lo_66 hL) rfl dX12_findQuestions_31 ?_
  refine E_icmp_ge (tgt := 142) dX12_findQuestions_34 (by decide) (fun c => ?_) (fun c => ?_)
  · have hB := hB.1 c
    exact E_vret rfl dX12_findQuestions_142 ⟨rfl, rfl, hB⟩
  · have hB := hB.2 c
    refine E_aload_n 0 dX12_findQuestions_37 rfl rfl rfl ?_
    refine E_aload_n 0 dX12_findQuestions_38 rfl rfl rfl ?_
    refine E_gR (j := 90) fG_X12_109 rfl (lo_66 hL) (lr_66_39 hL) (by decide) dX12_findQuestions_39 ?_
    refine E_aload_n 0 dX12_findQuestions_42 rfl rfl rfl ?_
    refine E_gR (j := 92) fG_X12_115 rfl (lo_66 hL) (lr_66_41 hL) (by decide) dX12_findQuestions_43 ?_
    refine E_iload_n 1 dX12_findQuestions_46 rfl rfl ?_
    obtain ⟨qq1, hB⟩ := hB
    refine E_aI (p := Int32.toNatClampNeg x1) (v := sI G 92 (Int32.toNatClampNeg x1)) (la_92 hL) qq1 rfl rfl dX12_findQuestions_47 ?_
    obtain ⟨qq2, hB⟩ := hB
    refine E_aI (p := Int32.toNatClampNeg (sI G 92 (Int32.toNatClampNeg x1))) (v := sI G 90 (Int32.toNatClampNeg (sI G 92 (Int32.toNatClampNeg x1)))) (la_90 hL) qq2 rfl rfl dX12_findQuestions_48 ?_
    refine E_cV (ci := 11) (as := [.int (sI G 90 (Int32.toNatClampNeg (sI G 92 (Int32.toNatClampNeg x1))))]) (st := []) cm_X12_codeOf cV_X12_387 ⟨_, _, rfl⟩ (by decide) (lo_66 hL) rfl rfl (by decide) (Nat.le_of_ble_eq_true rfl) (Nat.le_of_ble_eq_true rfl) dX12_findQuestions_49 hB (fun r G3 hr => ?_)
    obtain ⟨r3, rfl, hE3, hB⟩ := hr
    have hL3 : Lay G3.2.2 := by rw [hE3]; exact hL
    have hE3 : G3.2.2 = G.2.2 := hE3
    show Ev K mX12_findQuestions 2 52 [(0, .ref 66), (1, .int x1)] [.int r3] G3 _
    refine E_istore_n (lv' := [(0, .ref 66), (1, .int x1), (2, .int r3)]) dX12_findQuestions_52 rfl (by decide) rfl ?_
    refine E_aload_n 0 dX12_findQuestions_53 rfl rfl rfl ?_
    refine E_iload_n 2 dX12_findQuestions_54 rfl rfl ?_
    refine E_cV (ci := 11) (as := [.int r3]) (st := []) cm_X12_questionOf cV_X12_274 ⟨_, _, rfl⟩ (by decide) (lo_66 hL3) rfl rfl (by decide) (Nat.le_of_ble_eq_true rfl) (Nat.le_of_ble_eq_true rfl) dX12_findQuestions_55 hB (fun r G4 hr => ?_)
    obtain ⟨r4, rfl, hE4, hB⟩ := hr
    have hL4 : Lay G4.2.2 := by rw [hE4]; exact hL3
    have hE4 : G4.2.2 = G.2.2 := hE4.trans hE3
    show Ev K mX12_findQuestions 2 58 [(0, .ref 66), (1, .int x1), (2, .int r3)] [.int r4] G4 _
    refine E_istore_n (lv' := [(0, .ref 66), (1, .int x1), (2, .int r3), (3, .int r4)]) dX12_findQuestions_58 rfl (by decide) rfl ?_
    refine E_iload_n 3 dX12_findQuestions_59 rfl rfl ?_
    refine E_if_ge (tgt := 126) dX12_findQuestions_60 (by decide) (fun c => ?_) (fun c => ?_)
    · have hB := hB.1 c
      refine E_sub (lv' := [(0, .ref 66), (1, .int x1), (3, .int r4)]) [0, 1, 3] rfl ?_
      exact EvV.tr hB hE4
    · have hB := hB.2 c
      refine E_aload_n 0 dX12_findQuestions_63 rfl rfl rfl ?_
      refine E_gI (v := sI G4 66 43) fG_X12_397 rfl (lo_66 hL4) rfl dX12_findQuestions_64 ?_
      refine E_istore_n (lv' := [(0, .ref 66), (1, .int x1), (2, .int r3), (3, .int (sI G4 66 43))]) dX12_findQuestions_67 rfl (by decide) rfl ?_
      refine E_aload_n 0 dX12_findQuestions_68 rfl rfl rfl ?_
      refine E_gR (j := 96) fG_X12_128 rfl (lo_66 hL4) (lr_66_46 hL4) (by decide) dX12_findQuestions_69 ?_
      refine E_iload_n 3 dX12_findQuestions_72 rfl rfl ?_
      refine E_iload_n 2 dX12_findQuestions_73 rfl rfl ?_
      obtain ⟨qq5, hB⟩ := hB
      refine E_sI (p := Int32.toNatClampNeg (sI G4 66 43)) (la_96 hL4) qq5 rfl dX12_findQuestions_74 ?_
      refine E_aload_n 0 dX12_findQuestions_75 rfl rfl rfl ?_
      refine E_gR (j := 97) fG_X12_131 rfl (lo_66 hL4) (lr_66_47 hL4) (by decide) dX12_findQuestions_76 ?_
      refine E_iload_n 3 dX12_findQuestions_79 rfl rfl ?_
      refine E_iload_n 1 dX12_findQuestions_80 rfl rfl ?_
      obtain ⟨qq6, hB⟩ := hB
      refine E_sI (p := Int32.toNatClampNeg (sI G4 66 43)) (la_97 hL4) qq6 rfl dX12_findQuestions_81 ?_
      refine E_aload_n 0 dX12_findQuestions_82 rfl rfl rfl ?_
      refine E_gR (j := 98) fG_X12_134 rfl (lo_66 hL4) (lr_66_48 hL4) (by decide) dX12_findQuestions_83 ?_
      refine E_iload_n 3 dX12_findQuestions_86 rfl rfl ?_
      refine E_iconst (v := 0) dX12_findQuestions_87 (by decide) ?_
      obtain ⟨qq7, hB⟩ := hB
      refine E_sI (p := Int32.toNatClampNeg (sI G4 66 43)) (la_98 hL4) qq7 rfl dX12_findQuestions_88 ?_
      refine E_aload_n 0 dX12_findQuestions_89 rfl rfl rfl ?_
      refine E_gR (j := 95) fG_X12_125 rfl (lo_66 hL4) (lr_66_45 hL4) (by decide) dX12_findQuestions_90 ?_
      refine E_iload_n 3 dX12_findQuestions_93 rfl rfl ?_
      refine E_aload_n 0 dX12_findQuestions_94 rfl rfl rfl ?_
      refine E_gR (j := 94) fG_X12_121 rfl (lo_66 hL4) (lr_66_44 hL4) (by decide) dX12_findQuestions_95 ?_
      refine E_iload_n 2 dX12_findQuestions_98 rfl rfl ?_
      refine E_sipush (v := 4099) dX12_findQuestions_99 (by decide) ?_
      refine E_irem dX12_findQuestions_102 (by decide) ?_
      obtain ⟨qq8, hB⟩ := hB
      refine E_aI (p := Int32.toNatClampNeg (r3 - r3 / 4099 * 4099)) (v := sI G4 94 (Int32.toNatClampNeg (r3 - r3 / 4099 * 4099))) (la_94 hL4) qq8 rfl rfl dX12_findQuestions_103 ?_
      obtain ⟨qq9, hB⟩ := hB
      refine E_sI (p := Int32.toNatClampNeg (sI G4 66 43)) (la_95 hL4) qq9 rfl dX12_findQuestions_104 ?_
      refine E_nmG (fun G10 eG10 => ?_)
      have hB := hB G10 eG10
      have hL10 : Lay G10.2.2 := by rw [eG10]; exact hL4
      have hE10 : G10.2.2 = G.2.2 := by rw [eG10]; exact hE4
      refine E_aload_n 0 dX12_findQuestions_105 rfl rfl rfl ?_
      refine E_gR (j := 94) fG_X12_121 rfl (lo_66 hL10) (lr_66_44 hL10) (by decide) dX12_findQuestions_106 ?_
      refine E_iload_n 2 dX12_findQuestions_109 rfl rfl ?_
      refine E_sipush (v := 4099) dX12_findQuestions_110 (by decide) ?_
      refine E_irem dX12_findQuestions_113 (by decide) ?_
      refine E_iload_n 3 dX12_findQuestions_114 rfl rfl ?_
      obtain ⟨qq11, hB⟩ := hB
      refine E_sI (p := Int32.toNatClampNeg (r3 - r3 / 4099 * 4099)) (la_94 hL10) qq11 rfl dX12_findQuestions_115 ?_
      refine E_aload_n 0 dX12_findQuestions_116 rfl rfl rfl ?_
      refine E_dup dX12_findQuestions_117 rfl ?_
      refine E_gI (v := sI G10 66 43) fG_X12_397 rfl (lo_66 hL10) rfl dX12_findQuestions_118 ?_
      refine E_iconst (v := 1) dX12_findQuestions_121 (by decide) ?_
      refine E_iadd dX12_findQuestions_122 ?_
      refine E_pI fP_X12_397 rfl (lo_66 hL10) dX12_findQuestions_123 ?_
      refine E_sub (lv' := [(0, .ref 66), (1, .int x1), (3, .int (sI G4 66 43))]) [0, 1, 3] rfl ?_
      exact EvV.tr hB hE10

set_option maxRecDepth 20000 in
set_option maxHeartbeats 2000000 in
theorem kX12_findQuestions_126 {K : KT} {G : St} {Q : St → Prop} {x1 : Int32} {x3 : Int32} (hL : Lay G.2.2) 
    (hB : vp_in x3 60000 ∧ vp_in x3 60000 ∧ EvV K mX12_findQuestions 2 29 [(0, .ref 66), (1, .int (x1 + 1))] [] (uI G 98 (Int32.toNatClampNeg x3) ((sI G 98 (Int32.toNatClampNeg x3)) + 1)) Q) :
    EvV K mX12_findQuestions 2 126 [(0, .ref 66), (1, .int x1), (3, .int x3)] [] G Q := by
  refine E_aload_n 0 dX12_findQuestions_126 rfl rfl rfl ?_
  refine E_gR (j := 98) fG_X12_134 rfl (lo_66 hL) (lr_66_48 hL) (by decide) dX12_findQuestions_127 ?_
  refine E_iload_n 2 dX12_findQuestions_130 rfl rfl ?_
  refine E_dup2 dX12_findQuestions_131 rfl rfl ?_
  obtain ⟨qq1, hB⟩ := hB
  refine E_aI (p := Int32.toNatClampNeg x3) (v := sI G 98 (Int32.toNatClampNeg x3)) (la_98 hL) qq1 rfl rfl dX12_findQuestions_132 ?_
  refine E_iconst (v := 1) dX12_findQuestions_133 (by decide) ?_
  refine E_iadd dX12_findQuestions_134 ?_
  obtain ⟨qq2, hB⟩ := hB
  refine E_sI (p := Int32.toNatClampNeg x3) (la_98 hL) qq2 rfl dX12_findQuestions_135 ?_
  refine E_iinc (v := x1 + 1) (lv' := [(0, .ref 66), (1, .int (x1 + 1)), (3, .int x3)]) 1 dX12_findQuestions_136 rfl rfl (by decide) rfl ?_
  refine E_goto (tgt := 29) dX12_findQuestions_139 (by decide) ?_
  refine E_sub (lv' := [(0, .ref 66), (1, .int (x1 + 1))]) [0, 1] rfl ?_
  exact EvV.tr hB rfl

set_option maxRecDepth 20000 in
set_option maxHeartbeats 2000000 in
theorem kX12_findAll_0 {K : KT} {G : St} {Q : St → Prop}  (hL : Lay G.2.2) 
    (hB : ((¬ (sI G 66 15) = 0 → EvV K mX12_findTies 4 0 [(0, .ref 66)] [] (uI G 66 15 0) (fun G1 => EvV K mX12_findAll 5 33 [(0, .ref 66), (1, .int ((1 <<< ((sI G1 66 20) &&& 31)) - 1)), (2, .int 1)] [] (uI G1 66 38 0) Q)) ∧ ((sI G 66 15) = 0 → Q G))) :
    EvV K mX12_findAll 5 0 [(0, .ref 66)] [] G Q := by
  refine E_aload_n 0 dX12_findAll_0 rfl rfl rfl ?_
  refine E_gI (v := sI G 66 15) fG_X12_152 rfl (lo_66 hL) rfl dX12_findAll_1 ?_
  refine E_if_ne (tgt := 8) dX12_findAll_4 (by decide) (fun c => ?_) (fun c => ?_)
  · have hB := hB.1 c
    refine E_aload_n 0 dX12_findAll_8 rfl rfl rfl ?_
    refine E_iconst (v := 0) dX12_findAll_9 (by decide) ?_
    refine E_pZ fP_X12_152 rfl (lo_66 hL) (Or.inl rfl) dX12_findAll_10 ?_
    refine E_aload_n 0 dX12_findAll_13 rfl rfl rfl ?_
    refine E_cV (ci := 11) (as := []) (st := []) cm_X12_findTies cV_X12_363 ⟨_, _, rfl⟩ (by decide) (lo_66 hL) rfl rfl (by decide) (Nat.le_of_ble_eq_true rfl) (Nat.le_of_ble_eq_true rfl) dX12_findAll_14 hB (fun r G1 hr => ?_)
    obtain ⟨rfl, hE1, hB⟩ := hr
    have hL1 : Lay G1.2.2 := by rw [hE1]; exact hL
    have hE1 : G1.2.2 = G.2.2 := hE1
    show Ev K mX12_findAll 5 17 [(0, .ref 66)] [] G1 _
    refine E_aload_n 0 dX12_findAll_17 rfl rfl rfl ?_
    refine E_iconst (v := 0) dX12_findAll_18 (by decide) ?_
    refine E_pI fP_X12_366 rfl (lo_66 hL1) dX12_findAll_19 ?_
    refine E_iconst (v := 1) dX12_findAll_22 (by decide) ?_
    refine E_aload_n 0 dX12_findAll_23 rfl rfl rfl ?_
    refine E_gI (v := sI G1 66 20) fG_X12_226 rfl (lo_66 hL1) rfl dX12_findAll_24 ?_
    refine E_ishl dX12_findAll_27 ?_
    refine E_iconst (v := 1) dX12_findAll_28 (by decide) ?_
    refine E_isub dX12_findAll_29 ?_
    refine E_istore_n (lv' := [(0, .ref 66), (1, .int ((1 <<< ((sI G1 66 20) &&& 31)) - 1))]) dX12_findAll_30 rfl (by decide) rfl ?_
    refine E_iconst (v := 1) dX12_findAll_31 (by decide) ?_
    refine E_istore_n (lv' := [(0, .ref 66), (1, .int ((1 <<< ((sI G1 66 20) &&& 31)) - 1)), (2, .int 1)]) dX12_findAll_32 rfl (by decide) rfl ?_
    exact EvV.tr hB hE1
  · have hB := hB.2 c
    exact E_vret rfl dX12_findAll_7 ⟨rfl, rfl, hB⟩

set_option maxRecDepth 20000 in
set_option maxHeartbeats 2000000 in
theorem kX12_findAll_33 {K : KT} {G : St} {Q : St → Prop} {x1 : Int32} {x2 : Int32} (hL : Lay G.2.2) 
    (hB : (((sI G 66 27) < x2 → EvV K mX12_findAll 5 156 [(0, .ref 66), (2, .int 0)] [] G Q) ∧ (¬ (sI G 66 27) < x2 → (((sI G 66 16) < x2 → EvV K mX12_findAll 5 156 [(0, .ref 66), (2, .int 0)] [] G Q) ∧ (¬ (sI G 66 16) < x2 → (((sI G 66 20) ≤ 0 → EvV K mX12_findAll 5 156 [(0, .ref 66), (2, .int 0)] [] G Q) ∧ (¬ (sI G 66 20) ≤ 0 → EvV K mX12_findAll 5 62 [(0, .ref 66), (1, .int x1), (2, .int x2), (3, .int ((1 <<< (x2 &&& 31)) - 1))] [] G Q))))))) :
    EvV K mX12_findAll 5 33 [(0, .ref 66), (1, .int x1), (2, .int x2)] [] G Q := by
  refine E_iload_n 2 dX12_findAll_33 rfl rfl ?_
  refine E_aload_n 0 dX12_findAll_34 rfl rfl rfl ?_
  refine E_gI (v := sI G 66 27) fG_X12_149 rfl (lo_66 hL) rfl dX12_findAll_35 ?_
  refine E_icmp_gt (tgt := 154) dX12_findAll_38 (by decide) (fun c => ?_) (fun c => ?_)
  · have hB := hB.1 c
    refine E_iconst (v := 0) dX12_findAll_154 (by decide) ?_
    refine E_istore_n (lv' := [(0, .ref 66), (1, .int x1), (2, .int 0)]) dX12_findAll_155 rfl (by decide) rfl ?_
    refine E_sub (lv' := [(0, .ref 66), (2, .int 0)]) [0, 2] rfl ?_
    exact EvV.tr hB rfl
  · have hB := hB.2 c
    refine E_iload_n 2 dX12_findAll_41 rfl rfl ?_
    refine E_aload_n 0 dX12_findAll_42 rfl rfl rfl ?_
    refine E_gI (v := sI G 66 16) fG_X12_223 rfl (lo_66 hL) rfl dX12_findAll_43 ?_
    refine E_icmp_gt (tgt := 154) dX12_findAll_46 (by decide) (fun c => ?_) (fun c => ?_)
    · have hB := hB.1 c
      refine E_iconst (v := 0) dX12_findAll_154 (by decide) ?_
      refine E_istore_n (lv' := [(0, .ref 66), (1, .int x1), (2, .int 0)]) dX12_findAll_155 rfl (by decide) rfl ?_
      refine E_sub (lv' := [(0, .ref 66), (2, .int 0)]) [0, 2] rfl ?_
      exact EvV.tr hB rfl
    · have hB := hB.2 c
      refine E_aload_n 0 dX12_findAll_49 rfl rfl rfl ?_
      refine E_gI (v := sI G 66 20) fG_X12_226 rfl (lo_66 hL) rfl dX12_findAll_50 ?_
      refine E_if_le (tgt := 154) dX12_findAll_53 (by decide) (fun c => ?_) (fun c => ?_)
      · have hB := hB.1 c
        refine E_iconst (v := 0) dX12_findAll_154 (by decide) ?_
        refine E_istore_n (lv' := [(0, .ref 66), (1, .int x1), (2, .int 0)]) dX12_findAll_155 rfl (by decide) rfl ?_
        refine E_sub (lv' := [(0, .ref 66), (2, .int 0)]) [0, 2] rfl ?_
        exact EvV.tr hB rfl
      · have hB := hB.2 c
        refine E_iconst (v := 1) dX12_findAll_56 (by decide) ?_
        refine E_iload_n 2 dX12_findAll_57 rfl rfl ?_
        refine E_ishl dX12_findAll_58 ?_
        refine E_iconst (v := 1) dX12_findAll_59 (by decide) ?_
        refine E_isub dX12_findAll_60 ?_
        refine E_istore_n (lv' := [(0, .ref 66), (1, .int x1), (2, .int x2), (3, .int ((1 <<< (x2 &&& 31)) - 1))]) dX12_findAll_61 rfl (by decide) rfl ?_
        exact EvV.tr hB rfl

set_option maxRecDepth 20000 in
set_option maxHeartbeats 2000000 in
theorem kX12_findAll_62 {K : KT} {G : St} {Q : St → Prop} {x1 : Int32} {x2 : Int32} {x3 : Int32} (hL : Lay G.2.2) 
    (hB : (((1 <<< ((sI G 66 16) &&& 31)) ≤ x3 → EvV K mX12_findAll 5 33 [(0, .ref 66), (1, .int x1), (2, .int (x2 + 1))] [] G Q) ∧ (¬ (1 <<< ((sI G 66 16) &&& 31)) ≤ x3 → ((¬ (x3 &&& ((sI G 66 37) ^^^ (-1))) = 0 → EvV K mX12_findAll 5 140 [(0, .ref 66), (1, .int x1), (2, .int x2), (3, .int x3)] [] G Q) ∧ ((x3 &&& ((sI G 66 37) ^^^ (-1))) = 0 → EvI K mX12_hang 1 0 [(0, .ref 66), (1, .int x3)] [] G (fun r1 G1 => ((r1 = 0 → EvV K mX12_findAll 5 140 [(0, .ref 66), (1, .int x1), (2, .int x2), (3, .int x3)] [] G1 Q) ∧ (¬ r1 = 0 → EvI K mX12_isJoining 2 0 [(0, .ref 66), (1, .int x3), (2, .int x1)] [] G1 (fun r2 G2 => ((r2 = 0 → EvV K mX12_findAll 5 140 [(0, .ref 66), (1, .int x1), (2, .int x2), (3, .int x3)] [] G2 Q) ∧ (¬ r2 = 0 → vp_in (sI G2 66 38) 175000 ∧ EvI K mX12_tiesOf 0 0 [(0, .ref 66), (1, .int x3)] [] (uI G2 90 (Int32.toNatClampNeg (sI G2 66 38)) x3) (fun r4 G4 => EvI K mX12_termsOf 1 0 [(0, .ref 66), (1, .int x3)] [] G4 (fun r5 G5 => vp_in (sI G2 66 38) 175000 ∧ EvV K mX12_findAll 5 140 [(0, .ref 66), (1, .int x1), (2, .int x2), (3, .int x3)] [] (uI (uI G5 91 (Int32.toNatClampNeg (sI G2 66 38)) (r4 + r5)) 66 38 ((sI G5 66 38) + 1)) Q))))))))))))) :
    EvV K mX12_findAll 5 62 [(0, .ref 66), (1, .int x1), (2, .int x2), (3, .int x3)] [] G Q := by
  refine E_iload_n 3 dX12_findAll_62 rfl rfl ?_
  refine E_iconst (v := 1) dX12_findAll_63 (by decide) ?_
  refine E_aload_n 0 dX12_findAll_64 rfl rfl rfl ?_
  refine E_gI (v := sI G 66 16) fG_X12_223 rfl (lo_66 hL) rfl dX12_findAll_65 ?_
  refine E_ishl dX12_findAll_68 ?_
  refine E_icmp_ge (tgt := 148) dX12_findAll_69 (by decide) (fun c => ?_) (fun c => ?_)
  · have hB := hB.1 c
    refine E_iinc (v := x2 + 1) (lv' := [(0, .ref 66), (1, .int x1), (2, .int (x2 + 1)), (3, .int x3)]) 2 dX12_findAll_148 rfl rfl (by decide) rfl ?_
    refine E_goto (tgt := 33) dX12_findAll_151 (by decide) ?_
    refine E_sub (lv' := [(0, .ref 66), (1, .int x1), (2, .int (x2 + 1))]) [0, 1, 2] rfl ?_
    exact EvV.tr hB rfl
  · have hB := hB.2 c
    refine E_iload_n 3 dX12_findAll_72 rfl rfl ?_
    refine E_aload_n 0 dX12_findAll_73 rfl rfl rfl ?_
    refine E_gI (v := sI G 66 37) fG_X12_337 rfl (lo_66 hL) rfl dX12_findAll_74 ?_
    refine E_iconst (v := (-1)) dX12_findAll_77 (by decide) ?_
    refine E_ixor dX12_findAll_78 ?_
    refine E_iand dX12_findAll_79 ?_
    refine E_if_ne (tgt := 140) dX12_findAll_80 (by decide) (fun c => ?_) (fun c => ?_)
    · have hB := hB.1 c
      exact EvV.tr hB rfl
    · have hB := hB.2 c
      refine E_aload_n 0 dX12_findAll_83 rfl rfl rfl ?_
      refine E_iload_n 3 dX12_findAll_84 rfl rfl ?_
      refine E_cV (ci := 11) (as := [.int x3]) (st := []) cm_X12_hang cV_X12_357 ⟨_, _, rfl⟩ (by decide) (lo_66 hL) rfl rfl (by decide) (Nat.le_of_ble_eq_true rfl) (Nat.le_of_ble_eq_true rfl) dX12_findAll_85 hB (fun r G1 hr => ?_)
      obtain ⟨r1, rfl, hE1, hB⟩ := hr
      have hL1 : Lay G1.2.2 := by rw [hE1]; exact hL
      have hE1 : G1.2.2 = G.2.2 := hE1
      show Ev K mX12_findAll 5 88 [(0, .ref 66), (1, .int x1), (2, .int x2), (3, .int x3)] [.int r1] G1 _
      refine E_if_eq (tgt := 140) dX12_findAll_88 (by decide) (fun c => ?_) (fun c => ?_)
      · have hB := hB.1 c
        exact EvV.tr hB hE1
      · have hB := hB.2 c
        refine E_aload_n 0 dX12_findAll_91 rfl rfl rfl ?_
        refine E_iload_n 3 dX12_findAll_92 rfl rfl ?_
        refine E_iload_n 1 dX12_findAll_93 rfl rfl ?_
        refine E_cV (ci := 11) (as := [.int x3, .int x1]) (st := []) cm_X12_isJoining cV_X12_369 ⟨_, _, rfl⟩ (by decide) (lo_66 hL1) rfl rfl (by decide) (Nat.le_of_ble_eq_true rfl) (Nat.le_of_ble_eq_true rfl) dX12_findAll_94 hB (fun r G2 hr => ?_)
        obtain ⟨r2, rfl, hE2, hB⟩ := hr
        have hL2 : Lay G2.2.2 := by rw [hE2]; exact hL1
        have hE2 : G2.2.2 = G.2.2 := hE2.trans hE1
        show Ev K mX12_findAll 5 97 [(0, .ref 66), (1, .int x1), (2, .int x2), (3, .int x3)] [.int r2] G2 _
        refine E_if_eq (tgt := 140) dX12_findAll_97 (by decide) (fun c => ?_) (fun c => ?_)
        · have hB := hB.1 c
          exact EvV.tr hB hE2
        · have hB := hB.2 c
          refine E_aload_n 0 dX12_findAll_100 rfl rfl rfl ?_
          refine E_gR (j := 90) fG_X12_109 rfl (lo_66 hL2) (lr_66_39 hL2) (by decide) dX12_findAll_101 ?_
          refine E_aload_n 0 dX12_findAll_104 rfl rfl rfl ?_
          refine E_gI (v := sI G2 66 38) fG_X12_366 rfl (lo_66 hL2) rfl dX12_findAll_105 ?_
          refine E_iload_n 3 dX12_findAll_108 rfl rfl ?_
          obtain ⟨qq3, hB⟩ := hB
          refine E_sI (p := Int32.toNatClampNeg (sI G2 66 38)) (la_90 hL2) qq3 rfl dX12_findAll_109 ?_
          refine E_aload_n 0 dX12_findAll_110 rfl rfl rfl ?_
          refine E_gR (j := 91) fG_X12_112 rfl (lo_66 hL2) (lr_66_40 hL2) (by decide) dX12_findAll_111 ?_
          refine E_aload_n 0 dX12_findAll_114 rfl rfl rfl ?_
          refine E_gI (v := sI G2 66 38) fG_X12_366 rfl (lo_66 hL2) rfl dX12_findAll_115 ?_
          refine E_aload_n 0 dX12_findAll_118 rfl rfl rfl ?_
          refine E_iload_n 3 dX12_findAll_119 rfl rfl ?_
          refine E_cV (ci := 11) (as := [.int x3]) (st := [.int (sI G2 66 38), .ref 91]) cm_X12_tiesOf cV_X12_372 ⟨_, _, rfl⟩ (by decide) (lo_66 hL2) rfl rfl (by decide) (Nat.le_of_ble_eq_true rfl) (Nat.le_of_ble_eq_true rfl) dX12_findAll_120 hB (fun r G4 hr => ?_)
          obtain ⟨r4, rfl, hE4, hB⟩ := hr
          have hL4 : Lay G4.2.2 := by rw [hE4]; exact hL2
          have hE4 : G4.2.2 = G.2.2 := hE4.trans hE2
          show Ev K mX12_findAll 5 123 [(0, .ref 66), (1, .int x1), (2, .int x2), (3, .int x3)] [.int r4, .int (sI G2 66 38), .ref 91] G4 _
          refine E_aload_n 0 dX12_findAll_123 rfl rfl rfl ?_
          refine E_iload_n 3 dX12_findAll_124 rfl rfl ?_
          refine E_cV (ci := 11) (as := [.int x3]) (st := [.int r4, .int (sI G2 66 38), .ref 91]) cm_X12_termsOf cV_X12_375 ⟨_, _, rfl⟩ (by decide) (lo_66 hL4) rfl rfl (by decide) (Nat.le_of_ble_eq_true rfl) (Nat.le_of_ble_eq_true rfl) dX12_findAll_125 hB (fun r G5 hr => ?_)
          obtain ⟨r5, rfl, hE5, hB⟩ := hr
          have hL5 : Lay G5.2.2 := by rw [hE5]; exact hL4
          have hE5 : G5.2.2 = G.2.2 := hE5.trans hE4
          show Ev K mX12_findAll 5 128 [(0, .ref 66), (1, .int x1), (2, .int x2), (3, .int x3)] [.int r5, .int r4, .int (sI G2 66 38), .ref 91] G5 _
          refine E_iadd dX12_findAll_128 ?_
          obtain ⟨qq6, hB⟩ := hB
          refine E_sI (p := Int32.toNatClampNeg (sI G2 66 38)) (la_91 hL5) qq6 rfl dX12_findAll_129 ?_
          refine E_aload_n 0 dX12_findAll_130 rfl rfl rfl ?_
          refine E_dup dX12_findAll_131 rfl ?_
          refine E_gI (v := sI G5 66 38) fG_X12_366 rfl (lo_66 hL5) rfl dX12_findAll_132 ?_
          refine E_iconst (v := 1) dX12_findAll_135 (by decide) ?_
          refine E_iadd dX12_findAll_136 ?_
          refine E_pI fP_X12_366 rfl (lo_66 hL5) dX12_findAll_137 ?_
          exact EvV.tr hB hE5

set_option maxRecDepth 20000 in
set_option maxHeartbeats 2000000 in
theorem kX12_findAll_140 {K : KT} {G : St} {Q : St → Prop} {x1 : Int32} {x2 : Int32} {x3 : Int32} (hL : Lay G.2.2) 
    (hB : EvI K mX12_nextOf 0 0 [(0, .int x3)] [] G (fun r1 G1 => EvV K mX12_findAll 5 62 [(0, .ref 66), (1, .int x1), (2, .int x2), (3, .int r1)] [] G1 Q)) :
    EvV K mX12_findAll 5 140 [(0, .ref 66), (1, .int x1), (2, .int x2), (3, .int x3)] [] G Q := by
  refine E_iload_n 3 dX12_findAll_140 rfl rfl ?_
  refine E_callS (as := [.int x3]) (st := []) cm_X12_nextOf cS_X12_378 rfl rfl (by decide) (Nat.le_of_ble_eq_true rfl) (Nat.le_of_ble_eq_true rfl) dX12_findAll_141 hB (fun r G1 hr => ?_)
  obtain ⟨r1, rfl, hE1, hB⟩ := hr
  have hL1 : Lay G1.2.2 := by rw [hE1]; exact hL
  have hE1 : G1.2.2 = G.2.2 := hE1
  show Ev K mX12_findAll 5 144 [(0, .ref 66), (1, .int x1), (2, .int x2), (3, .int x3)] [.int r1] G1 _
  refine E_istore_n (lv' := [(0, .ref 66), (1, .int x1), (2, .int x2), (3, .int r1)]) dX12_findAll_144 rfl (by decide) rfl ?_
  refine E_goto (tgt := 62) dX12_findAll_145 (by decide) ?_
  exact EvV.tr hB hE1

set_option maxRecDepth 20000 in
set_option maxHeartbeats 2000000 in
theorem kX12_findAll_156 {K : KT} {G : St} {Q : St → Prop} {x2 : Int32} (hL : Lay G.2.2) 
    (hB : ((200 ≤ x2 → EvV K mX12_findAll 5 178 [(0, .ref 66), (2, .int 0)] [] G Q) ∧ (¬ 200 ≤ x2 → vp_in x2 200 ∧ EvV K mX12_findAll 5 156 [(0, .ref 66), (2, .int (x2 + 1))] [] (uI G 93 (Int32.toNatClampNeg x2) 0) Q))) :
    EvV K mX12_findAll 5 156 [(0, .ref 66), (2, .int x2)] [] G Q := by
  refine E_iload_n 1 dX12_findAll_156 rfl rfl ?_
  refine E_sipush (v := 200) dX12_findAll_157 (by decide) ?_
  refine E_icmp_ge (tgt := 176) dX12_findAll_160 (by decide) (fun c => ?_) (fun c => ?_)
  · have hB := hB.1 c
    refine E_iconst (v := 0) dX12_findAll_176 (by decide) ?_
    refine E_istore_n (lv' := [(0, .ref 66), (2, .int 0)]) dX12_findAll_177 rfl (by decide) rfl ?_
    exact EvV.tr hB rfl
  · have hB := hB.2 c
    refine E_aload_n 0 dX12_findAll_163 rfl rfl rfl ?_
    refine E_gR (j := 93) fG_X12_118 rfl (lo_66 hL) (lr_66_42 hL) (by decide) dX12_findAll_164 ?_
    refine E_iload_n 1 dX12_findAll_167 rfl rfl ?_
    refine E_iconst (v := 0) dX12_findAll_168 (by decide) ?_
    obtain ⟨qq1, hB⟩ := hB
    refine E_sI (p := Int32.toNatClampNeg x2) (la_93 hL) qq1 rfl dX12_findAll_169 ?_
    refine E_iinc (v := x2 + 1) (lv' := [(0, .ref 66), (2, .int (x2 + 1))]) 1 dX12_findAll_170 rfl rfl (by decide) rfl ?_
    refine E_goto (tgt := 156) dX12_findAll_173 (by decide) ?_
    exact EvV.tr hB rfl

set_option maxRecDepth 20000 in
set_option maxHeartbeats 2000000 in
theorem kX12_findAll_178 {K : KT} {G : St} {Q : St → Prop} {x2 : Int32} (hL : Lay G.2.2) 
    (hB : (((sI G 66 38) ≤ x2 → EvV K mX12_findAll 5 211 [(0, .ref 66), (2, .int 1)] [] G Q) ∧ (¬ (sI G 66 38) ≤ x2 → vp_in x2 175000 ∧ vp_in ((sI G 91 (Int32.toNatClampNeg x2)) + 1) 200 ∧ vp_in ((sI G 91 (Int32.toNatClampNeg x2)) + 1) 200 ∧ EvV K mX12_findAll 5 178 [(0, .ref 66), (2, .int (x2 + 1))] [] (uI G 93 (Int32.toNatClampNeg ((sI G 91 (Int32.toNatClampNeg x2)) + 1)) ((sI G 93 (Int32.toNatClampNeg ((sI G 91 (Int32.toNatClampNeg x2)) + 1))) + 1)) Q))) :
    EvV K mX12_findAll 5 178 [(0, .ref 66), (2, .int x2)] [] G Q := by
  refine E_iload_n 1 dX12_findAll_178 rfl rfl ?_
  refine E_aload_n 0 dX12_findAll_179 rfl rfl rfl ?_
  refine E_gI (v := sI G 66 38) fG_X12_366 rfl (lo_66 hL) rfl dX12_findAll_180 ?_
  refine E_icmp_ge (tgt := 209) dX12_findAll_183 (by decide) (fun c => ?_) (fun c => ?_)
  · have hB := hB.1 c
    refine E_iconst (v := 1) dX12_findAll_209 (by decide) ?_
    refine E_istore_n (lv' := [(0, .ref 66), (2, .int 1)]) dX12_findAll_210 rfl (by decide) rfl ?_
    exact EvV.tr hB rfl
  · have hB := hB.2 c
    refine E_aload_n 0 dX12_findAll_186 rfl rfl rfl ?_
    refine E_gR (j := 93) fG_X12_118 rfl (lo_66 hL) (lr_66_42 hL) (by decide) dX12_findAll_187 ?_
    refine E_aload_n 0 dX12_findAll_190 rfl rfl rfl ?_
    refine E_gR (j := 91) fG_X12_112 rfl (lo_66 hL) (lr_66_40 hL) (by decide) dX12_findAll_191 ?_
    refine E_iload_n 1 dX12_findAll_194 rfl rfl ?_
    obtain ⟨qq1, hB⟩ := hB
    refine E_aI (p := Int32.toNatClampNeg x2) (v := sI G 91 (Int32.toNatClampNeg x2)) (la_91 hL) qq1 rfl rfl dX12_findAll_195 ?_
    refine E_iconst (v := 1) dX12_findAll_196 (by decide) ?_
    refine E_iadd dX12_findAll_197 ?_
    refine E_dup2 dX12_findAll_198 rfl rfl ?_
    obtain ⟨qq2, hB⟩ := hB
    refine E_aI (p := Int32.toNatClampNeg ((sI G 91 (Int32.toNatClampNeg x2)) + 1)) (v := sI G 93 (Int32.toNatClampNeg ((sI G 91 (Int32.toNatClampNeg x2)) + 1))) (la_93 hL) qq2 rfl rfl dX12_findAll_199 ?_
    refine E_iconst (v := 1) dX12_findAll_200 (by decide) ?_
    refine E_iadd dX12_findAll_201 ?_
    obtain ⟨qq3, hB⟩ := hB
    refine E_sI (p := Int32.toNatClampNeg ((sI G 91 (Int32.toNatClampNeg x2)) + 1)) (la_93 hL) qq3 rfl dX12_findAll_202 ?_
    refine E_iinc (v := x2 + 1) (lv' := [(0, .ref 66), (2, .int (x2 + 1))]) 1 dX12_findAll_203 rfl rfl (by decide) rfl ?_
    refine E_goto (tgt := 178) dX12_findAll_206 (by decide) ?_
    exact EvV.tr hB rfl

set_option maxRecDepth 20000 in
set_option maxHeartbeats 2000000 in
theorem kX12_findAll_211 {K : KT} {G : St} {Q : St → Prop} {x2 : Int32} (hL : Lay G.2.2) 
    (hB : ((200 ≤ x2 → EvV K mX12_findAll 5 243 [(0, .ref 66), (2, .int 0)] [] G Q) ∧ (¬ 200 ≤ x2 → vp_in x2 200 ∧ vp_in (x2 - 1) 200 ∧ vp_in x2 200 ∧ EvV K mX12_findAll 5 211 [(0, .ref 66), (2, .int (x2 + 1))] [] (uI G 93 (Int32.toNatClampNeg x2) ((sI G 93 (Int32.toNatClampNeg x2)) + (sI G 93 (Int32.toNatClampNeg (x2 - 1))))) Q))) :
    EvV K mX12_findAll 5 211 [(0, .ref 66), (2, .int x2)] [] G Q := by
  refine E_iload_n 1 dX12_findAll_211 rfl rfl ?_
  refine E_sipush (v := 200) dX12_findAll_212 (by decide) ?_
  refine E_icmp_ge (tgt := 241) dX12_findAll_215 (by decide) (fun c => ?_) (fun c => ?_)
  · have hB := hB.1 c
    refine E_iconst (v := 0) dX12_findAll_241 (by decide) ?_
    refine E_istore_n (lv' := [(0, .ref 66), (2, .int 0)]) dX12_findAll_242 rfl (by decide) rfl ?_
    exact EvV.tr hB rfl
  · have hB := hB.2 c
    refine E_aload_n 0 dX12_findAll_218 rfl rfl rfl ?_
    refine E_gR (j := 93) fG_X12_118 rfl (lo_66 hL) (lr_66_42 hL) (by decide) dX12_findAll_219 ?_
    refine E_iload_n 1 dX12_findAll_222 rfl rfl ?_
    refine E_dup2 dX12_findAll_223 rfl rfl ?_
    obtain ⟨qq1, hB⟩ := hB
    refine E_aI (p := Int32.toNatClampNeg x2) (v := sI G 93 (Int32.toNatClampNeg x2)) (la_93 hL) qq1 rfl rfl dX12_findAll_224 ?_
    refine E_aload_n 0 dX12_findAll_225 rfl rfl rfl ?_
    refine E_gR (j := 93) fG_X12_118 rfl (lo_66 hL) (lr_66_42 hL) (by decide) dX12_findAll_226 ?_
    refine E_iload_n 1 dX12_findAll_229 rfl rfl ?_
    refine E_iconst (v := 1) dX12_findAll_230 (by decide) ?_
    refine E_isub dX12_findAll_231 ?_
    obtain ⟨qq2, hB⟩ := hB
    refine E_aI (p := Int32.toNatClampNeg (x2 - 1)) (v := sI G 93 (Int32.toNatClampNeg (x2 - 1))) (la_93 hL) qq2 rfl rfl dX12_findAll_232 ?_
    refine E_iadd dX12_findAll_233 ?_
    obtain ⟨qq3, hB⟩ := hB
    refine E_sI (p := Int32.toNatClampNeg x2) (la_93 hL) qq3 rfl dX12_findAll_234 ?_
    refine E_iinc (v := x2 + 1) (lv' := [(0, .ref 66), (2, .int (x2 + 1))]) 1 dX12_findAll_235 rfl rfl (by decide) rfl ?_
    refine E_goto (tgt := 211) dX12_findAll_238 (by decide) ?_
    exact EvV.tr hB rfl

set_option maxRecDepth 20000 in
set_option maxHeartbeats 2000000 in
theorem kX12_findAll_243 {K : KT} {G : St} {Q : St → Prop} {x2 : Int32} (hL : Lay G.2.2) 
    (hB : (((sI G 66 38) ≤ x2 → EvV K mX12_findQuestions 2 0 [(0, .ref 66)] [] G (fun G1 => Q G1)) ∧ (¬ (sI G 66 38) ≤ x2 → vp_in x2 175000 ∧ vp_in (sI G 91 (Int32.toNatClampNeg x2)) 200 ∧ vp_in (sI G 93 (Int32.toNatClampNeg (sI G 91 (Int32.toNatClampNeg x2)))) 175000 ∧ vp_in x2 175000 ∧ vp_in (sI G 91 (Int32.toNatClampNeg x2)) 200 ∧ vp_in (sI G 91 (Int32.toNatClampNeg x2)) 200 ∧ ∀ G8 : St, G8 = (uI (uI G 92 (Int32.toNatClampNeg (sI G 93 (Int32.toNatClampNeg (sI G 91 (Int32.toNatClampNeg x2))))) x2) 93 (Int32.toNatClampNeg (sI G 91 (Int32.toNatClampNeg x2))) ((sI G 93 (Int32.toNatClampNeg (sI G 91 (Int32.toNatClampNeg x2)))) + 1)) → EvV K mX12_findAll 5 243 [(0, .ref 66), (2, .int (x2 + 1))] [] G8 Q))) :
    EvV K mX12_findAll 5 243 [(0, .ref 66), (2, .int x2)] [] G Q := by
  refine E_iload_n 1 dX12_findAll_243 rfl rfl ?_
  refine E_aload_n 0 dX12_findAll_244 rfl rfl rfl ?_
  refine E_gI (v := sI G 66 38) fG_X12_366 rfl (lo_66 hL) rfl dX12_findAll_245 ?_
  refine E_icmp_ge (tgt := 289) dX12_findAll_248 (by decide) (fun c => ?_) (fun c => ?_)
  · have hB := hB.1 c
    refine E_aload_n 0 dX12_findAll_289 rfl rfl rfl ?_
    refine E_cV (ci := 11) (as := []) (st := []) cm_X12_findQuestions cV_X12_381 ⟨_, _, rfl⟩ (by decide) (lo_66 hL) rfl rfl (by decide) (Nat.le_of_ble_eq_true rfl) (Nat.le_of_ble_eq_true rfl) dX12_findAll_290 hB (fun r G1 hr => ?_)
    obtain ⟨rfl, hE1, hB⟩ := hr
    have hL1 : Lay G1.2.2 := by rw [hE1]; exact hL
    have hE1 : G1.2.2 = G.2.2 := hE1
    show Ev K mX12_findAll 5 293 [(0, .ref 66), (2, .int x2)] [] G1 _
    exact E_vret rfl dX12_findAll_293 ⟨rfl, hE1, hB⟩
  · have hB := hB.2 c
    refine E_aload_n 0 dX12_findAll_251 rfl rfl rfl ?_
    refine E_gR (j := 92) fG_X12_115 rfl (lo_66 hL) (lr_66_41 hL) (by decide) dX12_findAll_252 ?_
    refine E_aload_n 0 dX12_findAll_255 rfl rfl rfl ?_
    refine E_gR (j := 93) fG_X12_118 rfl (lo_66 hL) (lr_66_42 hL) (by decide) dX12_findAll_256 ?_
    refine E_aload_n 0 dX12_findAll_259 rfl rfl rfl ?_
    refine E_gR (j := 91) fG_X12_112 rfl (lo_66 hL) (lr_66_40 hL) (by decide) dX12_findAll_260 ?_
    refine E_iload_n 1 dX12_findAll_263 rfl rfl ?_
    obtain ⟨qq2, hB⟩ := hB
    refine E_aI (p := Int32.toNatClampNeg x2) (v := sI G 91 (Int32.toNatClampNeg x2)) (la_91 hL) qq2 rfl rfl dX12_findAll_264 ?_
    obtain ⟨qq3, hB⟩ := hB
    refine E_aI (p := Int32.toNatClampNeg (sI G 91 (Int32.toNatClampNeg x2))) (v := sI G 93 (Int32.toNatClampNeg (sI G 91 (Int32.toNatClampNeg x2)))) (la_93 hL) qq3 rfl rfl dX12_findAll_265 ?_
    refine E_iload_n 1 dX12_findAll_266 rfl rfl ?_
    obtain ⟨qq4, hB⟩ := hB
    refine E_sI (p := Int32.toNatClampNeg (sI G 93 (Int32.toNatClampNeg (sI G 91 (Int32.toNatClampNeg x2))))) (la_92 hL) qq4 rfl dX12_findAll_267 ?_
    refine E_aload_n 0 dX12_findAll_268 rfl rfl rfl ?_
    refine E_gR (j := 93) fG_X12_118 rfl (lo_66 hL) (lr_66_42 hL) (by decide) dX12_findAll_269 ?_
    refine E_aload_n 0 dX12_findAll_272 rfl rfl rfl ?_
    refine E_gR (j := 91) fG_X12_112 rfl (lo_66 hL) (lr_66_40 hL) (by decide) dX12_findAll_273 ?_
    refine E_iload_n 1 dX12_findAll_276 rfl rfl ?_
    obtain ⟨qq5, hB⟩ := hB
    refine E_aI (p := Int32.toNatClampNeg x2) (v := sI G 91 (Int32.toNatClampNeg x2)) (la_91 hL) qq5 rfl rfl dX12_findAll_277 ?_
    refine E_dup2 dX12_findAll_278 rfl rfl ?_
    obtain ⟨qq6, hB⟩ := hB
    refine E_aI (p := Int32.toNatClampNeg (sI G 91 (Int32.toNatClampNeg x2))) (v := sI G 93 (Int32.toNatClampNeg (sI G 91 (Int32.toNatClampNeg x2)))) (la_93 hL) qq6 rfl rfl dX12_findAll_279 ?_
    refine E_iconst (v := 1) dX12_findAll_280 (by decide) ?_
    refine E_iadd dX12_findAll_281 ?_
    obtain ⟨qq7, hB⟩ := hB
    refine E_sI (p := Int32.toNatClampNeg (sI G 91 (Int32.toNatClampNeg x2))) (la_93 hL) qq7 rfl dX12_findAll_282 ?_
    refine E_nmG (fun G8 eG8 => ?_)
    have hB := hB G8 eG8
    have hL8 : Lay G8.2.2 := by rw [eG8]; exact hL
    have hE8 : G8.2.2 = G.2.2 := by rw [eG8]; exact rfl
    refine E_iinc (v := x2 + 1) (lv' := [(0, .ref 66), (2, .int (x2 + 1))]) 1 dX12_findAll_283 rfl rfl (by decide) rfl ?_
    refine E_goto (tgt := 243) dX12_findAll_286 (by decide) ?_
    exact EvV.tr hB hE8

set_option maxRecDepth 20000 in
set_option maxHeartbeats 2000000 in
theorem kX12_findAsked_0 {K : KT} {G : St} {Q : Int32 → St → Prop}  (hL : Lay G.2.2) 
    (hB : (((sI G 66 20) = 0 → Q (-1) G) ∧ (¬ (sI G 66 20) = 0 → (((sI G 66 20) = (sI G 66 21) → EvI K mX12_findAsked 6 22 [(0, .ref 66), (1, .int 0)] [] G Q) ∧ (¬ (sI G 66 20) = (sI G 66 21) → Q (-1) G))))) :
    EvI K mX12_findAsked 6 0 [(0, .ref 66)] [] G Q := by
  refine E_aload_n 0 dX12_findAsked_0 rfl rfl rfl ?_
  refine E_gI (v := sI G 66 20) fG_X12_226 rfl (lo_66 hL) rfl dX12_findAsked_1 ?_
  refine E_if_eq (tgt := 18) dX12_findAsked_4 (by decide) (fun c => ?_) (fun c => ?_)
  · have hB := hB.1 c
    refine E_iconst (v := (-1)) dX12_findAsked_18 (by decide) ?_
    exact E_iret rfl dX12_findAsked_19 ⟨_, rfl, rfl, hB⟩
  · have hB := hB.2 c
    refine E_aload_n 0 dX12_findAsked_7 rfl rfl rfl ?_
    refine E_gI (v := sI G 66 20) fG_X12_226 rfl (lo_66 hL) rfl dX12_findAsked_8 ?_
    refine E_aload_n 0 dX12_findAsked_11 rfl rfl rfl ?_
    refine E_gI (v := sI G 66 21) fG_X12_254 rfl (lo_66 hL) rfl dX12_findAsked_12 ?_
    refine E_icmp_eq (tgt := 20) dX12_findAsked_15 (by decide) (fun c => ?_) (fun c => ?_)
    · have hB := hB.1 c
      refine E_iconst (v := 0) dX12_findAsked_20 (by decide) ?_
      refine E_istore_n (lv' := [(0, .ref 66), (1, .int 0)]) dX12_findAsked_21 rfl (by decide) rfl ?_
      exact EvI.tr hB rfl
    · have hB := hB.2 c
      refine E_iconst (v := (-1)) dX12_findAsked_18 (by decide) ?_
      exact E_iret rfl dX12_findAsked_19 ⟨_, rfl, rfl, hB⟩

set_option maxRecDepth 20000 in
set_option maxHeartbeats 2000000 in
theorem kX12_findAsked_22 {K : KT} {G : St} {Q : Int32 → St → Prop} {x1 : Int32} (hL : Lay G.2.2) 
    (hB : (((sI G 66 20) ≤ x1 → EvV K mX12_findAll 5 0 [(0, .ref 66)] [] G (fun G1 => EvI K mX12_findAsked 6 81 [(0, .ref 66), (1, .int 0), (2, .int 4)] [] G1 Q)) ∧ (¬ (sI G 66 20) ≤ x1 → vp_in x1 8 ∧ vp_in (4 + x1) 8 ∧ ((¬ (sI G 79 (Int32.toNatClampNeg x1)) = (sI G 79 (Int32.toNatClampNeg (4 + x1))) → Q (-1) G) ∧ ((sI G 79 (Int32.toNatClampNeg x1)) = (sI G 79 (Int32.toNatClampNeg (4 + x1))) → vp_in x1 8 ∧ vp_in (4 + x1) 8 ∧ (((sL G 80 (Int32.toNatClampNeg x1)) = (sL G 80 (Int32.toNatClampNeg (4 + x1))) → EvI K mX12_findAsked 6 22 [(0, .ref 66), (1, .int (x1 + 1))] [] G Q) ∧ (¬ (sL G 80 (Int32.toNatClampNeg x1)) = (sL G 80 (Int32.toNatClampNeg (4 + x1))) → Q (-1) G))))))) :
    EvI K mX12_findAsked 6 22 [(0, .ref 66), (1, .int x1)] [] G Q := by
  refine E_iload_n 1 dX12_findAsked_22 rfl rfl ?_
  refine E_aload_n 0 dX12_findAsked_23 rfl rfl rfl ?_
  refine E_gI (v := sI G 66 20) fG_X12_226 rfl (lo_66 hL) rfl dX12_findAsked_24 ?_
  refine E_icmp_ge (tgt := 73) dX12_findAsked_27 (by decide) (fun c => ?_) (fun c => ?_)
  · have hB := hB.1 c
    refine E_aload_n 0 dX12_findAsked_73 rfl rfl rfl ?_
    refine E_cV (ci := 11) (as := []) (st := []) cm_X12_findAll cV_X12_271 ⟨_, _, rfl⟩ (by decide) (lo_66 hL) rfl rfl (by decide) (Nat.le_of_ble_eq_true rfl) (Nat.le_of_ble_eq_true rfl) dX12_findAsked_74 hB (fun r G1 hr => ?_)
    obtain ⟨rfl, hE1, hB⟩ := hr
    have hL1 : Lay G1.2.2 := by rw [hE1]; exact hL
    have hE1 : G1.2.2 = G.2.2 := hE1
    show Ev K mX12_findAsked 6 77 [(0, .ref 66), (1, .int x1)] [] G1 _
    refine E_iconst (v := 0) dX12_findAsked_77 (by decide) ?_
    refine E_istore_n (lv' := [(0, .ref 66), (1, .int 0)]) dX12_findAsked_78 rfl (by decide) rfl ?_
    refine E_iconst (v := 4) dX12_findAsked_79 (by decide) ?_
    refine E_istore_n (lv' := [(0, .ref 66), (1, .int 0), (2, .int 4)]) dX12_findAsked_80 rfl (by decide) rfl ?_
    exact EvI.tr hB hE1
  · have hB := hB.2 c
    refine E_aload_n 0 dX12_findAsked_30 rfl rfl rfl ?_
    refine E_gR (j := 79) fG_X12_74 rfl (lo_66 hL) (lr_66_22 hL) (by decide) dX12_findAsked_31 ?_
    refine E_iload_n 1 dX12_findAsked_34 rfl rfl ?_
    obtain ⟨qq2, hB⟩ := hB
    refine E_aI (p := Int32.toNatClampNeg x1) (v := sI G 79 (Int32.toNatClampNeg x1)) (la_79 hL) qq2 rfl rfl dX12_findAsked_35 ?_
    refine E_aload_n 0 dX12_findAsked_36 rfl rfl rfl ?_
    refine E_gR (j := 79) fG_X12_74 rfl (lo_66 hL) (lr_66_22 hL) (by decide) dX12_findAsked_37 ?_
    refine E_iconst (v := 4) dX12_findAsked_40 (by decide) ?_
    refine E_iload_n 1 dX12_findAsked_41 rfl rfl ?_
    refine E_iadd dX12_findAsked_42 ?_
    obtain ⟨qq3, hB⟩ := hB
    refine E_aI (p := Int32.toNatClampNeg (4 + x1)) (v := sI G 79 (Int32.toNatClampNeg (4 + x1))) (la_79 hL) qq3 rfl rfl dX12_findAsked_43 ?_
    refine E_icmp_ne (tgt := 65) dX12_findAsked_44 (by decide) (fun c => ?_) (fun c => ?_)
    · have hB := hB.1 c
      refine E_iconst (v := (-1)) dX12_findAsked_65 (by decide) ?_
      exact E_iret rfl dX12_findAsked_66 ⟨_, rfl, rfl, hB⟩
    · have hB := hB.2 c
      refine E_aload_n 0 dX12_findAsked_47 rfl rfl rfl ?_
      refine E_gR (j := 80) fG_X12_77 rfl (lo_66 hL) (lr_66_23 hL) (by decide) dX12_findAsked_48 ?_
      refine E_iload_n 1 dX12_findAsked_51 rfl rfl ?_
      obtain ⟨qq4, hB⟩ := hB
      refine E_aL (p := Int32.toNatClampNeg x1) (v := sL G 80 (Int32.toNatClampNeg x1)) (la_80 hL) qq4 rfl rfl dX12_findAsked_52 ?_
      refine E_aload_n 0 dX12_findAsked_53 rfl rfl rfl ?_
      refine E_gR (j := 80) fG_X12_77 rfl (lo_66 hL) (lr_66_23 hL) (by decide) dX12_findAsked_54 ?_
      refine E_iconst (v := 4) dX12_findAsked_57 (by decide) ?_
      refine E_iload_n 1 dX12_findAsked_58 rfl rfl ?_
      refine E_iadd dX12_findAsked_59 ?_
      obtain ⟨qq5, hB⟩ := hB
      refine E_aL (p := Int32.toNatClampNeg (4 + x1)) (v := sL G 80 (Int32.toNatClampNeg (4 + x1))) (la_80 hL) qq5 rfl rfl dX12_findAsked_60 ?_
      refine E_lcmp dX12_findAsked_61 ?_
      refine E_if_eq (tgt := 67) dX12_findAsked_62 (by decide) (fun c => ?_) (fun c => ?_)
      · have hB := hB.1 ((lgc_eq (sL G 80 (Int32.toNatClampNeg x1)) (sL G 80 (Int32.toNatClampNeg (4 + x1)))).mp c)
        refine E_iinc (v := x1 + 1) (lv' := [(0, .ref 66), (1, .int (x1 + 1))]) 1 dX12_findAsked_67 rfl rfl (by decide) rfl ?_
        refine E_goto (tgt := 22) dX12_findAsked_70 (by decide) ?_
        exact EvI.tr hB rfl
      · have hB := hB.2 (fun q => c ((lgc_eq (sL G 80 (Int32.toNatClampNeg x1)) (sL G 80 (Int32.toNatClampNeg (4 + x1)))).mpr q))
        refine E_iconst (v := (-1)) dX12_findAsked_65 (by decide) ?_
        exact E_iret rfl dX12_findAsked_66 ⟨_, rfl, rfl, hB⟩

set_option maxRecDepth 20000 in
set_option maxHeartbeats 2000000 in
theorem kX12_findAsked_81 {K : KT} {G : St} {Q : Int32 → St → Prop} {x1 : Int32} {x2 : Int32} (hL : Lay G.2.2) 
    (hB : ((x2 < 0 → EvI K mX12_findAsked 6 105 [(0, .ref 66), (1, .int x1), (2, .int 0)] [] G Q) ∧ (¬ x2 < 0 → vp_in x2 5 ∧ EvI K mX12_findAsked 6 81 [(0, .ref 66), (1, .int ((6 * x1) + (sI G 81 (Int32.toNatClampNeg x2)))), (2, .int (x2 + (-1)))] [] G Q))) :
    EvI K mX12_findAsked 6 81 [(0, .ref 66), (1, .int x1), (2, .int x2)] [] G Q := by
  refine E_iload_n 2 dX12_findAsked_81 rfl rfl ?_
  refine E_if_lt (tgt := 103) dX12_findAsked_82 (by decide) (fun c => ?_) (fun c => ?_)
  · have hB := hB.1 c
    refine E_iconst (v := 0) dX12_findAsked_103 (by decide) ?_
    refine E_istore_n (lv' := [(0, .ref 66), (1, .int x1), (2, .int 0)]) dX12_findAsked_104 rfl (by decide) rfl ?_
    exact EvI.tr hB rfl
  · have hB := hB.2 c
    refine E_bipush (v := 6) dX12_findAsked_85 (by decide) ?_
    refine E_iload_n 1 dX12_findAsked_87 rfl rfl ?_
    refine E_imul dX12_findAsked_88 ?_
    refine E_aload_n 0 dX12_findAsked_89 rfl rfl rfl ?_
    refine E_gR (j := 81) fG_X12_80 rfl (lo_66 hL) (lr_66_24 hL) (by decide) dX12_findAsked_90 ?_
    refine E_iload_n 2 dX12_findAsked_93 rfl rfl ?_
    obtain ⟨qq1, hB⟩ := hB
    refine E_aI (p := Int32.toNatClampNeg x2) (v := sI G 81 (Int32.toNatClampNeg x2)) (la_81 hL) qq1 rfl rfl dX12_findAsked_94 ?_
    refine E_iadd dX12_findAsked_95 ?_
    refine E_istore_n (lv' := [(0, .ref 66), (1, .int ((6 * x1) + (sI G 81 (Int32.toNatClampNeg x2)))), (2, .int x2)]) dX12_findAsked_96 rfl (by decide) rfl ?_
    refine E_iinc (v := x2 + (-1)) (lv' := [(0, .ref 66), (1, .int ((6 * x1) + (sI G 81 (Int32.toNatClampNeg x2)))), (2, .int (x2 + (-1)))]) 2 dX12_findAsked_97 rfl rfl (by decide) rfl ?_
    refine E_goto (tgt := 81) dX12_findAsked_100 (by decide) ?_
    exact EvI.tr hB rfl

set_option maxRecDepth 20000 in
set_option maxHeartbeats 2000000 in
theorem kX12_findAsked_105 {K : KT} {G : St} {Q : Int32 → St → Prop} {x1 : Int32} {x2 : Int32} (hL : Lay G.2.2) 
    (hB : ((4 ≤ x2 → EvI K mX12_questionOf 0 0 [(0, .ref 66), (1, .int x1)] [] G (fun r1 G1 => Q r1 G1)) ∧ (¬ 4 ≤ x2 → (((sI G 66 20) ≤ x2 → EvI K mX12_findAsked 6 131 [(0, .ref 66), (2, .int x2)] [.int 0, .int (5 * x1)] G Q) ∧ (¬ (sI G 66 20) ≤ x2 → vp_in x2 5 ∧ EvI K mX12_findAsked 6 131 [(0, .ref 66), (2, .int x2)] [.int (sI G 82 (Int32.toNatClampNeg x2)), .int (5 * x1)] G Q))))) :
    EvI K mX12_findAsked 6 105 [(0, .ref 66), (1, .int x1), (2, .int x2)] [] G Q := by
  refine E_iload_n 2 dX12_findAsked_105 rfl rfl ?_
  refine E_iconst (v := 4) dX12_findAsked_106 (by decide) ?_
  refine E_icmp_ge (tgt := 139) dX12_findAsked_107 (by decide) (fun c => ?_) (fun c => ?_)
  · have hB := hB.1 c
    refine E_aload_n 0 dX12_findAsked_139 rfl rfl rfl ?_
    refine E_iload_n 1 dX12_findAsked_140 rfl rfl ?_
    refine E_cV (ci := 11) (as := [.int x1]) (st := []) cm_X12_questionOf cV_X12_274 ⟨_, _, rfl⟩ (by decide) (lo_66 hL) rfl rfl (by decide) (Nat.le_of_ble_eq_true rfl) (Nat.le_of_ble_eq_true rfl) dX12_findAsked_141 hB (fun r G1 hr => ?_)
    obtain ⟨r1, rfl, hE1, hB⟩ := hr
    have hL1 : Lay G1.2.2 := by rw [hE1]; exact hL
    have hE1 : G1.2.2 = G.2.2 := hE1
    show Ev K mX12_findAsked 6 144 [(0, .ref 66), (1, .int x1), (2, .int x2)] [.int r1] G1 _
    exact E_iret rfl dX12_findAsked_144 ⟨_, rfl, hE1, hB⟩
  · have hB := hB.2 c
    refine E_iconst (v := 5) dX12_findAsked_110 (by decide) ?_
    refine E_iload_n 1 dX12_findAsked_111 rfl rfl ?_
    refine E_imul dX12_findAsked_112 ?_
    refine E_iload_n 2 dX12_findAsked_113 rfl rfl ?_
    refine E_aload_n 0 dX12_findAsked_114 rfl rfl rfl ?_
    refine E_gI (v := sI G 66 20) fG_X12_226 rfl (lo_66 hL) rfl dX12_findAsked_115 ?_
    refine E_icmp_ge (tgt := 130) dX12_findAsked_118 (by decide) (fun c => ?_) (fun c => ?_)
    · have hB := hB.1 c
      refine E_iconst (v := 0) dX12_findAsked_130 (by decide) ?_
      refine E_sub (lv' := [(0, .ref 66), (2, .int x2)]) [0, 2] rfl ?_
      exact EvI.tr hB rfl
    · have hB := hB.2 c
      refine E_aload_n 0 dX12_findAsked_121 rfl rfl rfl ?_
      refine E_gR (j := 82) fG_X12_83 rfl (lo_66 hL) (lr_66_25 hL) (by decide) dX12_findAsked_122 ?_
      refine E_iload_n 2 dX12_findAsked_125 rfl rfl ?_
      obtain ⟨qq2, hB⟩ := hB
      refine E_aI (p := Int32.toNatClampNeg x2) (v := sI G 82 (Int32.toNatClampNeg x2)) (la_82 hL) qq2 rfl rfl dX12_findAsked_126 ?_
      refine E_goto (tgt := 131) dX12_findAsked_127 (by decide) ?_
      refine E_sub (lv' := [(0, .ref 66), (2, .int x2)]) [0, 2] rfl ?_
      exact EvI.tr hB rfl

set_option maxRecDepth 20000 in
set_option maxHeartbeats 2000000 in
theorem kX12_findAsked_131 {K : KT} {G : St} {Q : Int32 → St → Prop} {x2 : Int32} {xs0 : Int32} {xs1 : Int32} (hL : Lay G.2.2) 
    (hB : EvI K mX12_findAsked 6 105 [(0, .ref 66), (1, .int (xs0 + xs1)), (2, .int (x2 + 1))] [] G Q) :
    EvI K mX12_findAsked 6 131 [(0, .ref 66), (2, .int x2)] [.int xs1, .int xs0] G Q := by
  refine E_iadd dX12_findAsked_131 ?_
  refine E_istore_n (lv' := [(0, .ref 66), (1, .int (xs0 + xs1)), (2, .int x2)]) dX12_findAsked_132 rfl (by decide) rfl ?_
  refine E_iinc (v := x2 + 1) (lv' := [(0, .ref 66), (1, .int (xs0 + xs1)), (2, .int (x2 + 1))]) 2 dX12_findAsked_133 rfl rfl (by decide) rfl ?_
  refine E_goto (tgt := 105) dX12_findAsked_136 (by decide) ?_
  exact EvI.tr hB rfl

set_option maxRecDepth 20000 in
set_option maxHeartbeats 2000000 in
theorem kX12_question_0 {K : KT} {G : St} {Q : Int32 → St → Prop}  (hL : Lay G.2.2) 
    (hB : EvV K mX12_cutAll 1 0 [(0, .ref 66)] [] (uI G 66 0 0) (fun G1 => EvI K mX12_question 7 16 [(0, .ref 66), (1, .int 0)] [] (uI G1 66 21 0) Q)) :
    EvI K mX12_question 7 0 [(0, .ref 66)] [] G Q := by
  refine E_aload_n 0 dX12_question_0 rfl rfl rfl ?_
  refine E_iconst (v := 0) dX12_question_1 (by decide) ?_
  refine E_pI fP_X12_1 rfl (lo_66 hL) dX12_question_2 ?_
  refine E_aload_n 0 dX12_question_5 rfl rfl rfl ?_
  refine E_cV (ci := 11) (as := []) (st := []) cm_X12_cutAll cV_X12_198 ⟨_, _, rfl⟩ (by decide) (lo_66 hL) rfl rfl (by decide) (Nat.le_of_ble_eq_true rfl) (Nat.le_of_ble_eq_true rfl) dX12_question_6 hB (fun r G1 hr => ?_)
  obtain ⟨rfl, hE1, hB⟩ := hr
  have hL1 : Lay G1.2.2 := by rw [hE1]; exact hL
  have hE1 : G1.2.2 = G.2.2 := hE1
  show Ev K mX12_question 7 9 [(0, .ref 66)] [] G1 _
  refine E_aload_n 0 dX12_question_9 rfl rfl rfl ?_
  refine E_iconst (v := 0) dX12_question_10 (by decide) ?_
  refine E_pI fP_X12_254 rfl (lo_66 hL1) dX12_question_11 ?_
  refine E_iconst (v := 0) dX12_question_14 (by decide) ?_
  refine E_istore_n (lv' := [(0, .ref 66), (1, .int 0)]) dX12_question_15 rfl (by decide) rfl ?_
  exact EvI.tr hB hE1

set_option maxRecDepth 20000 in
set_option maxHeartbeats 2000000 in
theorem kX12_question_16 {K : KT} {G : St} {Q : Int32 → St → Prop} {x1 : Int32} (hL : Lay G.2.2) 
    (hB : ((5 ≤ x1 → EvI K mX12_question 7 38 [(0, .ref 66), (1, .int 0), (2, .int 1)] [] G Q) ∧ (¬ 5 ≤ x1 → vp_in x1 5 ∧ EvI K mX12_question 7 16 [(0, .ref 66), (1, .int (x1 + 1))] [] (uI G 81 (Int32.toNatClampNeg x1) 0) Q))) :
    EvI K mX12_question 7 16 [(0, .ref 66), (1, .int x1)] [] G Q := by
  refine E_iload_n 1 dX12_question_16 rfl rfl ?_
  refine E_iconst (v := 5) dX12_question_17 (by decide) ?_
  refine E_icmp_ge (tgt := 34) dX12_question_18 (by decide) (fun c => ?_) (fun c => ?_)
  · have hB := hB.1 c
    refine E_iconst (v := 0) dX12_question_34 (by decide) ?_
    refine E_istore_n (lv' := [(0, .ref 66), (1, .int 0)]) dX12_question_35 rfl (by decide) rfl ?_
    refine E_iconst (v := 1) dX12_question_36 (by decide) ?_
    refine E_istore_n (lv' := [(0, .ref 66), (1, .int 0), (2, .int 1)]) dX12_question_37 rfl (by decide) rfl ?_
    exact EvI.tr hB rfl
  · have hB := hB.2 c
    refine E_aload_n 0 dX12_question_21 rfl rfl rfl ?_
    refine E_gR (j := 81) fG_X12_80 rfl (lo_66 hL) (lr_66_24 hL) (by decide) dX12_question_22 ?_
    refine E_iload_n 1 dX12_question_25 rfl rfl ?_
    refine E_iconst (v := 0) dX12_question_26 (by decide) ?_
    obtain ⟨qq1, hB⟩ := hB
    refine E_sI (p := Int32.toNatClampNeg x1) (la_81 hL) qq1 rfl dX12_question_27 ?_
    refine E_iinc (v := x1 + 1) (lv' := [(0, .ref 66), (1, .int (x1 + 1))]) 1 dX12_question_28 rfl rfl (by decide) rfl ?_
    refine E_goto (tgt := 16) dX12_question_31 (by decide) ?_
    exact EvI.tr hB rfl

set_option maxRecDepth 20000 in
set_option maxHeartbeats 2000000 in
theorem kX12_question_38 {K : KT} {G : St} {Q : Int32 → St → Prop} {x1 : Int32} {x2 : Int32} (hL : Lay G.2.2) 
    (hB : ((¬ (sI G 66 8) = 0 → EvI K mX12_question 7 143 [(0, .ref 66)] [] G Q) ∧ ((sI G 66 8) = 0 → ((x2 = 0 → EvI K mX12_question 7 143 [(0, .ref 66)] [] G Q) ∧ (¬ x2 = 0 → EvI K mX12_isName 0 0 [(0, .ref 66)] [] G (fun r1 G1 => ((r1 = 0 → EvI K mX12_question 7 65 [(0, .ref 66), (1, .int x1)] [.int (-1)] G1 Q) ∧ (¬ r1 = 0 → EvI K mX12_findTable 0 0 [(0, .ref 66), (1, .int 0)] [] G1 (fun r2 G2 => EvI K mX12_question 7 65 [(0, .ref 66), (1, .int x1)] [.int r2] G2 Q))))))))) :
    EvI K mX12_question 7 38 [(0, .ref 66), (1, .int x1), (2, .int x2)] [] G Q := by
  refine E_aload_n 0 dX12_question_38 rfl rfl rfl ?_
  refine E_gI (v := sI G 66 8) fG_X12_182 rfl (lo_66 hL) rfl dX12_question_39 ?_
  refine E_if_ne (tgt := 143) dX12_question_42 (by decide) (fun c => ?_) (fun c => ?_)
  · have hB := hB.1 c
    refine E_sub (lv' := [(0, .ref 66)]) [0] rfl ?_
    exact EvI.tr hB rfl
  · have hB := hB.2 c
    refine E_iload_n 2 dX12_question_45 rfl rfl ?_
    refine E_if_eq (tgt := 143) dX12_question_46 (by decide) (fun c => ?_) (fun c => ?_)
    · have hB := hB.1 c
      refine E_sub (lv' := [(0, .ref 66)]) [0] rfl ?_
      exact EvI.tr hB rfl
    · have hB := hB.2 c
      refine E_aload_n 0 dX12_question_49 rfl rfl rfl ?_
      refine E_cV (ci := 11) (as := []) (st := []) cm_X12_isName cV_X12_207 ⟨_, _, rfl⟩ (by decide) (lo_66 hL) rfl rfl (by decide) (Nat.le_of_ble_eq_true rfl) (Nat.le_of_ble_eq_true rfl) dX12_question_50 hB (fun r G1 hr => ?_)
      obtain ⟨r1, rfl, hE1, hB⟩ := hr
      have hL1 : Lay G1.2.2 := by rw [hE1]; exact hL
      have hE1 : G1.2.2 = G.2.2 := hE1
      show Ev K mX12_question 7 53 [(0, .ref 66), (1, .int x1), (2, .int x2)] [.int r1] G1 _
      refine E_if_eq (tgt := 64) dX12_question_53 (by decide) (fun c => ?_) (fun c => ?_)
      · have hB := hB.1 c
        refine E_iconst (v := (-1)) dX12_question_64 (by decide) ?_
        refine E_sub (lv' := [(0, .ref 66), (1, .int x1)]) [0, 1] rfl ?_
        exact EvI.tr hB hE1
      · have hB := hB.2 c
        refine E_aload_n 0 dX12_question_56 rfl rfl rfl ?_
        refine E_iconst (v := 0) dX12_question_57 (by decide) ?_
        refine E_cV (ci := 11) (as := [.int 0]) (st := []) cm_X12_findTable cV_X12_211 ⟨_, _, rfl⟩ (by decide) (lo_66 hL1) rfl rfl (by decide) (Nat.le_of_ble_eq_true rfl) (Nat.le_of_ble_eq_true rfl) dX12_question_58 hB (fun r G2 hr => ?_)
        obtain ⟨r2, rfl, hE2, hB⟩ := hr
        have hL2 : Lay G2.2.2 := by rw [hE2]; exact hL1
        have hE2 : G2.2.2 = G.2.2 := hE2.trans hE1
        show Ev K mX12_question 7 61 [(0, .ref 66), (1, .int x1), (2, .int x2)] [.int r2] G2 _
        refine E_goto (tgt := 65) dX12_question_61 (by decide) ?_
        refine E_sub (lv' := [(0, .ref 66), (1, .int x1)]) [0, 1] rfl ?_
        exact EvI.tr hB hE2

set_option maxRecDepth 20000 in
set_option maxHeartbeats 2000000 in
theorem kX12_question_65 {K : KT} {G : St} {Q : Int32 → St → Prop} {x1 : Int32} {xs0 : Int32} (hL : Lay G.2.2) 
    (hB : EvI K mX12_isName 0 0 [(0, .ref 66)] [] G (fun r1 G1 => ((¬ r1 = 0 → ((0 ≤ xs0 → ((¬ x1 = 5 → EvI K mX12_question 7 103 [(0, .ref 66), (1, .int x1), (3, .int xs0)] [] G1 Q) ∧ (x1 = 5 → EvV K mX12_wrong 0 0 [(0, .ref 66), (1, .int 5)] [] G1 (fun G2 => EvI K mX12_question 7 103 [(0, .ref 66), (1, .int x1), (3, .int xs0)] [] G2 Q)))) ∧ (¬ 0 ≤ xs0 → EvV K mX12_wrong 0 0 [(0, .ref 66), (1, .int 2)] [] G1 (fun G3 => EvI K mX12_question 7 103 [(0, .ref 66), (1, .int x1), (3, .int xs0)] [] G3 Q)))) ∧ (r1 = 0 → EvV K mX12_wrong 0 0 [(0, .ref 66), (1, .int 1)] [] G1 (fun G4 => EvI K mX12_question 7 103 [(0, .ref 66), (1, .int x1), (3, .int xs0)] [] G4 Q))))) :
    EvI K mX12_question 7 65 [(0, .ref 66), (1, .int x1)] [.int xs0] G Q := by
  refine E_istore_n (lv' := [(0, .ref 66), (1, .int x1), (3, .int xs0)]) dX12_question_65 rfl (by decide) rfl ?_
  refine E_aload_n 0 dX12_question_66 rfl rfl rfl ?_
  refine E_cV (ci := 11) (as := []) (st := []) cm_X12_isName cV_X12_207 ⟨_, _, rfl⟩ (by decide) (lo_66 hL) rfl rfl (by decide) (Nat.le_of_ble_eq_true rfl) (Nat.le_of_ble_eq_true rfl) dX12_question_67 hB (fun r G1 hr => ?_)
  obtain ⟨r1, rfl, hE1, hB⟩ := hr
  have hL1 : Lay G1.2.2 := by rw [hE1]; exact hL
  have hE1 : G1.2.2 = G.2.2 := hE1
  show Ev K mX12_question 7 70 [(0, .ref 66), (1, .int x1), (3, .int xs0)] [.int r1] G1 _
  refine E_if_ne (tgt := 81) dX12_question_70 (by decide) (fun c => ?_) (fun c => ?_)
  · have hB := hB.1 c
    refine E_iload_n 2 dX12_question_81 rfl rfl ?_
    refine E_if_ge (tgt := 93) dX12_question_82 (by decide) (fun c => ?_) (fun c => ?_)
    · have hB := hB.1 c
      refine E_iload_n 1 dX12_question_93 rfl rfl ?_
      refine E_iconst (v := 5) dX12_question_94 (by decide) ?_
      refine E_icmp_ne (tgt := 103) dX12_question_95 (by decide) (fun c => ?_) (fun c => ?_)
      · have hB := hB.1 c
        exact EvI.tr hB hE1
      · have hB := hB.2 c
        refine E_aload_n 0 dX12_question_98 rfl rfl rfl ?_
        refine E_iconst (v := 5) dX12_question_99 (by decide) ?_
        refine E_cV (ci := 11) (as := [.int 5]) (st := []) cm_X12_wrong cV_X12_188 ⟨_, _, rfl⟩ (by decide) (lo_66 hL1) rfl rfl (by decide) (Nat.le_of_ble_eq_true rfl) (Nat.le_of_ble_eq_true rfl) dX12_question_100 hB (fun r G2 hr => ?_)
        obtain ⟨rfl, hE2, hB⟩ := hr
        have hL2 : Lay G2.2.2 := by rw [hE2]; exact hL1
        have hE2 : G2.2.2 = G.2.2 := hE2.trans hE1
        show Ev K mX12_question 7 103 [(0, .ref 66), (1, .int x1), (3, .int xs0)] [] G2 _
        exact EvI.tr hB hE2
    · have hB := hB.2 c
      refine E_aload_n 0 dX12_question_85 rfl rfl rfl ?_
      refine E_iconst (v := 2) dX12_question_86 (by decide) ?_
      refine E_cV (ci := 11) (as := [.int 2]) (st := []) cm_X12_wrong cV_X12_188 ⟨_, _, rfl⟩ (by decide) (lo_66 hL1) rfl rfl (by decide) (Nat.le_of_ble_eq_true rfl) (Nat.le_of_ble_eq_true rfl) dX12_question_87 hB (fun r G3 hr => ?_)
      obtain ⟨rfl, hE3, hB⟩ := hr
      have hL3 : Lay G3.2.2 := by rw [hE3]; exact hL1
      have hE3 : G3.2.2 = G.2.2 := hE3.trans hE1
      show Ev K mX12_question 7 90 [(0, .ref 66), (1, .int x1), (3, .int xs0)] [] G3 _
      refine E_goto (tgt := 103) dX12_question_90 (by decide) ?_
      exact EvI.tr hB hE3
  · have hB := hB.2 c
    refine E_aload_n 0 dX12_question_73 rfl rfl rfl ?_
    refine E_iconst (v := 1) dX12_question_74 (by decide) ?_
    refine E_cV (ci := 11) (as := [.int 1]) (st := []) cm_X12_wrong cV_X12_188 ⟨_, _, rfl⟩ (by decide) (lo_66 hL1) rfl rfl (by decide) (Nat.le_of_ble_eq_true rfl) (Nat.le_of_ble_eq_true rfl) dX12_question_75 hB (fun r G4 hr => ?_)
    obtain ⟨rfl, hE4, hB⟩ := hr
    have hL4 : Lay G4.2.2 := by rw [hE4]; exact hL1
    have hE4 : G4.2.2 = G.2.2 := hE4.trans hE1
    show Ev K mX12_question 7 78 [(0, .ref 66), (1, .int x1), (3, .int xs0)] [] G4 _
    refine E_goto (tgt := 103) dX12_question_78 (by decide) ?_
    exact EvI.tr hB hE4

set_option maxRecDepth 20000 in
set_option maxHeartbeats 2000000 in
theorem kX12_question_103 {K : KT} {G : St} {Q : Int32 → St → Prop} {x1 : Int32} {x3 : Int32} (hL : Lay G.2.2) 
    (hB : ((¬ (sI G 66 8) = 0 → EvI K mX12_question 7 133 [(0, .ref 66), (1, .int x1)] [] G Q) ∧ ((sI G 66 8) = 0 → vp_in x3 5 ∧ vp_in x3 5 ∧ EvI K mX12_question 7 133 [(0, .ref 66), (1, .int (x1 + 1))] [] (uI (uI G 81 (Int32.toNatClampNeg x3) ((sI G 81 (Int32.toNatClampNeg x3)) + 1)) 66 7 ((sI G 66 7) + 1)) Q))) :
    EvI K mX12_question 7 103 [(0, .ref 66), (1, .int x1), (3, .int x3)] [] G Q := by
  refine E_aload_n 0 dX12_question_103 rfl rfl rfl ?_
  refine E_gI (v := sI G 66 8) fG_X12_182 rfl (lo_66 hL) rfl dX12_question_104 ?_
  refine E_if_ne (tgt := 133) dX12_question_107 (by decide) (fun c => ?_) (fun c => ?_)
  · have hB := hB.1 c
    refine E_sub (lv' := [(0, .ref 66), (1, .int x1)]) [0, 1] rfl ?_
    exact EvI.tr hB rfl
  · have hB := hB.2 c
    refine E_aload_n 0 dX12_question_110 rfl rfl rfl ?_
    refine E_gR (j := 81) fG_X12_80 rfl (lo_66 hL) (lr_66_24 hL) (by decide) dX12_question_111 ?_
    refine E_iload_n 2 dX12_question_114 rfl rfl ?_
    refine E_dup2 dX12_question_115 rfl rfl ?_
    obtain ⟨qq1, hB⟩ := hB
    refine E_aI (p := Int32.toNatClampNeg x3) (v := sI G 81 (Int32.toNatClampNeg x3)) (la_81 hL) qq1 rfl rfl dX12_question_116 ?_
    refine E_iconst (v := 1) dX12_question_117 (by decide) ?_
    refine E_iadd dX12_question_118 ?_
    obtain ⟨qq2, hB⟩ := hB
    refine E_sI (p := Int32.toNatClampNeg x3) (la_81 hL) qq2 rfl dX12_question_119 ?_
    refine E_iinc (v := x1 + 1) (lv' := [(0, .ref 66), (1, .int (x1 + 1)), (3, .int x3)]) 1 dX12_question_120 rfl rfl (by decide) rfl ?_
    refine E_aload_n 0 dX12_question_123 rfl rfl rfl ?_
    refine E_dup dX12_question_124 rfl ?_
    refine E_gI (v := sI G 66 7) fG_X12_179 rfl (lo_66 hL) rfl dX12_question_125 ?_
    refine E_iconst (v := 1) dX12_question_128 (by decide) ?_
    refine E_iadd dX12_question_129 ?_
    refine E_pI fP_X12_179 rfl (lo_66 hL) dX12_question_130 ?_
    refine E_sub (lv' := [(0, .ref 66), (1, .int (x1 + 1))]) [0, 1] rfl ?_
    exact EvI.tr hB rfl

set_option maxRecDepth 20000 in
set_option maxHeartbeats 2000000 in
theorem kX12_question_133 {K : KT} {G : St} {Q : Int32 → St → Prop} {x1 : Int32} (hL : Lay G.2.2) 
    (hB : EvI K mX12_hasSign 1 0 [(0, .ref 66), (1, .int 44)] [] G (fun r1 G1 => EvI K mX12_question 7 38 [(0, .ref 66), (1, .int x1), (2, .int r1)] [] G1 Q)) :
    EvI K mX12_question 7 133 [(0, .ref 66), (1, .int x1)] [] G Q := by
  refine E_aload_n 0 dX12_question_133 rfl rfl rfl ?_
  refine E_bipush (v := 44) dX12_question_134 (by decide) ?_
  refine E_cV (ci := 11) (as := [.int 44]) (st := []) cm_X12_hasSign cV_X12_217 ⟨_, _, rfl⟩ (by decide) (lo_66 hL) rfl rfl (by decide) (Nat.le_of_ble_eq_true rfl) (Nat.le_of_ble_eq_true rfl) dX12_question_136 hB (fun r G1 hr => ?_)
  obtain ⟨r1, rfl, hE1, hB⟩ := hr
  have hL1 : Lay G1.2.2 := by rw [hE1]; exact hL
  have hE1 : G1.2.2 = G.2.2 := hE1
  show Ev K mX12_question 7 139 [(0, .ref 66), (1, .int x1)] [.int r1] G1 _
  refine E_istore_n (lv' := [(0, .ref 66), (1, .int x1), (2, .int r1)]) dX12_question_139 rfl (by decide) rfl ?_
  refine E_goto (tgt := 38) dX12_question_140 (by decide) ?_
  exact EvI.tr hB hE1

set_option maxRecDepth 20000 in
set_option maxHeartbeats 2000000 in
theorem kX12_question_143 {K : KT} {G : St} {Q : Int32 → St → Prop}  (hL : Lay G.2.2) 
    (hB : EvV K mX12_takeSign 1 0 [(0, .ref 66), (1, .int 58)] [] G (fun G1 => EvV K mX12_readOfTerm 3 0 [(0, .ref 66)] [] G1 (fun G2 => EvI K mX12_question 7 153 [(0, .ref 66)] [] G2 Q))) :
    EvI K mX12_question 7 143 [(0, .ref 66)] [] G Q := by
  refine E_aload_n 0 dX12_question_143 rfl rfl rfl ?_
  refine E_bipush (v := 58) dX12_question_144 (by decide) ?_
  refine E_cV (ci := 11) (as := [.int 58]) (st := []) cm_X12_takeSign cV_X12_220 ⟨_, _, rfl⟩ (by decide) (lo_66 hL) rfl rfl (by decide) (Nat.le_of_ble_eq_true rfl) (Nat.le_of_ble_eq_true rfl) dX12_question_146 hB (fun r G1 hr => ?_)
  obtain ⟨rfl, hE1, hB⟩ := hr
  have hL1 : Lay G1.2.2 := by rw [hE1]; exact hL
  have hE1 : G1.2.2 = G.2.2 := hE1
  show Ev K mX12_question 7 149 [(0, .ref 66)] [] G1 _
  refine E_aload_n 0 dX12_question_149 rfl rfl rfl ?_
  refine E_cV (ci := 11) (as := []) (st := []) cm_X12_readOfTerm cV_X12_260 ⟨_, _, rfl⟩ (by decide) (lo_66 hL1) rfl rfl (by decide) (Nat.le_of_ble_eq_true rfl) (Nat.le_of_ble_eq_true rfl) dX12_question_150 hB (fun r G2 hr => ?_)
  obtain ⟨rfl, hE2, hB⟩ := hr
  have hL2 : Lay G2.2.2 := by rw [hE2]; exact hL1
  have hE2 : G2.2.2 = G.2.2 := hE2.trans hE1
  show Ev K mX12_question 7 153 [(0, .ref 66)] [] G2 _
  exact EvI.tr hB hE2

set_option maxRecDepth 20000 in
set_option maxHeartbeats 2000000 in
theorem kX12_question_153 {K : KT} {G : St} {Q : Int32 → St → Prop}  (hL : Lay G.2.2) 
    (hB : EvI K mX12_hasSign 1 0 [(0, .ref 66), (1, .int 44)] [] G (fun r1 G1 => ((r1 = 0 → ((¬ (sI G1 66 8) = 0 → EvI K mX12_question 7 193 [(0, .ref 66)] [] G1 Q) ∧ ((sI G1 66 8) = 0 → vp_in (sI G1 66 7) 1002 ∧ (((sI G1 68 (Int32.toNatClampNeg (sI G1 66 7))) = 0 → EvI K mX12_question 7 193 [(0, .ref 66)] [] G1 Q) ∧ (¬ (sI G1 68 (Int32.toNatClampNeg (sI G1 66 7))) = 0 → EvV K mX12_wrong 0 0 [(0, .ref 66), (1, .int 1)] [] G1 (fun G3 => EvI K mX12_question 7 193 [(0, .ref 66)] [] G3 Q)))))) ∧ (¬ r1 = 0 → EvV K mX12_readOfTerm 3 0 [(0, .ref 66)] [] G1 (fun G4 => EvI K mX12_question 7 153 [(0, .ref 66)] [] G4 Q))))) :
    EvI K mX12_question 7 153 [(0, .ref 66)] [] G Q := by
  refine E_aload_n 0 dX12_question_153 rfl rfl rfl ?_
  refine E_bipush (v := 44) dX12_question_154 (by decide) ?_
  refine E_cV (ci := 11) (as := [.int 44]) (st := []) cm_X12_hasSign cV_X12_217 ⟨_, _, rfl⟩ (by decide) (lo_66 hL) rfl rfl (by decide) (Nat.le_of_ble_eq_true rfl) (Nat.le_of_ble_eq_true rfl) dX12_question_156 hB (fun r G1 hr => ?_)
  obtain ⟨r1, rfl, hE1, hB⟩ := hr
  have hL1 : Lay G1.2.2 := by rw [hE1]; exact hL
  have hE1 : G1.2.2 = G.2.2 := hE1
  show Ev K mX12_question 7 159 [(0, .ref 66)] [.int r1] G1 _
  refine E_if_eq (tgt := 169) dX12_question_159 (by decide) (fun c => ?_) (fun c => ?_)
  · have hB := hB.1 c
    refine E_aload_n 0 dX12_question_169 rfl rfl rfl ?_
    refine E_gI (v := sI G1 66 8) fG_X12_182 rfl (lo_66 hL1) rfl dX12_question_170 ?_
    refine E_if_ne (tgt := 193) dX12_question_173 (by decide) (fun c => ?_) (fun c => ?_)
    · have hB := hB.1 c
      exact EvI.tr hB hE1
    · have hB := hB.2 c
      refine E_aload_n 0 dX12_question_176 rfl rfl rfl ?_
      refine E_gR (j := 68) fG_X12_24 rfl (lo_66 hL1) (lr_66_4 hL1) (by decide) dX12_question_177 ?_
      refine E_aload_n 0 dX12_question_180 rfl rfl rfl ?_
      refine E_gI (v := sI G1 66 7) fG_X12_179 rfl (lo_66 hL1) rfl dX12_question_181 ?_
      obtain ⟨qq2, hB⟩ := hB
      refine E_aI (p := Int32.toNatClampNeg (sI G1 66 7)) (v := sI G1 68 (Int32.toNatClampNeg (sI G1 66 7))) (la_68 hL1) qq2 rfl rfl dX12_question_184 ?_
      refine E_if_eq (tgt := 193) dX12_question_185 (by decide) (fun c => ?_) (fun c => ?_)
      · have hB := hB.1 c
        exact EvI.tr hB hE1
      · have hB := hB.2 c
        refine E_aload_n 0 dX12_question_188 rfl rfl rfl ?_
        refine E_iconst (v := 1) dX12_question_189 (by decide) ?_
        refine E_cV (ci := 11) (as := [.int 1]) (st := []) cm_X12_wrong cV_X12_188 ⟨_, _, rfl⟩ (by decide) (lo_66 hL1) rfl rfl (by decide) (Nat.le_of_ble_eq_true rfl) (Nat.le_of_ble_eq_true rfl) dX12_question_190 hB (fun r G3 hr => ?_)
        obtain ⟨rfl, hE3, hB⟩ := hr
        have hL3 : Lay G3.2.2 := by rw [hE3]; exact hL1
        have hE3 : G3.2.2 = G.2.2 := hE3.trans hE1
        show Ev K mX12_question 7 193 [(0, .ref 66)] [] G3 _
        exact EvI.tr hB hE3
  · have hB := hB.2 c
    refine E_aload_n 0 dX12_question_162 rfl rfl rfl ?_
    refine E_cV (ci := 11) (as := []) (st := []) cm_X12_readOfTerm cV_X12_260 ⟨_, _, rfl⟩ (by decide) (lo_66 hL1) rfl rfl (by decide) (Nat.le_of_ble_eq_true rfl) (Nat.le_of_ble_eq_true rfl) dX12_question_163 hB (fun r G4 hr => ?_)
    obtain ⟨rfl, hE4, hB⟩ := hr
    have hL4 : Lay G4.2.2 := by rw [hE4]; exact hL1
    have hE4 : G4.2.2 = G.2.2 := hE4.trans hE1
    show Ev K mX12_question 7 166 [(0, .ref 66)] [] G4 _
    refine E_goto (tgt := 153) dX12_question_166 (by decide) ?_
    exact EvI.tr hB hE4

set_option maxRecDepth 20000 in
set_option maxHeartbeats 2000000 in
theorem kX12_question_193 {K : KT} {G : St} {Q : Int32 → St → Prop}  (hL : Lay G.2.2) 
    (hB : (((sI G 66 8) ≤ 0 → EvI K mX12_findAsked 6 0 [(0, .ref 66)] [] G (fun r1 G1 => Q r1 G1)) ∧ (¬ (sI G 66 8) ≤ 0 → Q ((sI G 66 8) + 100000) G))) :
    EvI K mX12_question 7 193 [(0, .ref 66)] [] G Q := by
  refine E_aload_n 0 dX12_question_193 rfl rfl rfl ?_
  refine E_gI (v := sI G 66 8) fG_X12_182 rfl (lo_66 hL) rfl dX12_question_194 ?_
  refine E_if_le (tgt := 211) dX12_question_197 (by decide) (fun c => ?_) (fun c => ?_)
  · have hB := hB.1 c
    refine E_aload_n 0 dX12_question_211 rfl rfl rfl ?_
    refine E_cV (ci := 11) (as := []) (st := []) cm_X12_findAsked cV_X12_264 ⟨_, _, rfl⟩ (by decide) (lo_66 hL) rfl rfl (by decide) (Nat.le_of_ble_eq_true rfl) (Nat.le_of_ble_eq_true rfl) dX12_question_212 hB (fun r G1 hr => ?_)
    obtain ⟨r1, rfl, hE1, hB⟩ := hr
    have hL1 : Lay G1.2.2 := by rw [hE1]; exact hL
    have hE1 : G1.2.2 = G.2.2 := hE1
    show Ev K mX12_question 7 215 [(0, .ref 66)] [.int r1] G1 _
    exact E_iret rfl dX12_question_215 ⟨_, rfl, hE1, hB⟩
  · have hB := hB.2 c
    refine E_aload_n 0 dX12_question_200 rfl rfl rfl ?_
    refine E_gI (v := sI G 66 8) fG_X12_182 rfl (lo_66 hL) rfl dX12_question_201 ?_
    refine E_ldcw (v := 100000) tm_1592 dX12_question_204 ?_
    refine E_iadd dX12_question_207 ?_
    refine E_goto (tgt := 215) dX12_question_208 (by decide) ?_
    exact E_iret rfl dX12_question_215 ⟨_, rfl, rfl, hB⟩

set_option maxRecDepth 20000 in
set_option maxHeartbeats 2000000 in
theorem kX12_person_0 {K : KT} {G : St} {Q : Int32 → St → Prop} {x1 : Int32} (hL : Lay G.2.2) 
    (hB : EvI K mX12_within 0 0 [(0, .int x1), (1, .int 0), (2, .int 3)] [] (uI G 66 0 0) (fun r1 G1 => ((¬ r1 = 0 → Q 1 (uI (uI G1 66 26 x1) 66 15 1)) ∧ (r1 = 0 → Q 0 G1)))) :
    EvI K mX12_person 1 0 [(0, .ref 66), (1, .int x1)] [] G Q := by
  refine E_aload_n 0 dX12_person_0 rfl rfl rfl ?_
  refine E_iconst (v := 0) dX12_person_1 (by decide) ?_
  refine E_pI fP_X12_1 rfl (lo_66 hL) dX12_person_2 ?_
  refine E_iload_n 1 dX12_person_5 rfl rfl ?_
  refine E_iconst (v := 0) dX12_person_6 (by decide) ?_
  refine E_iconst (v := 3) dX12_person_7 (by decide) ?_
  refine E_callS (as := [.int x1, .int 0, .int 3]) (st := []) cm_X12_within cS_X12_277 rfl rfl (by decide) (Nat.le_of_ble_eq_true rfl) (Nat.le_of_ble_eq_true rfl) dX12_person_8 hB (fun r G1 hr => ?_)
  obtain ⟨r1, rfl, hE1, hB⟩ := hr
  have hL1 : Lay G1.2.2 := by rw [hE1]; exact hL
  have hE1 : G1.2.2 = G.2.2 := hE1
  show Ev K mX12_person 1 11 [(0, .ref 66), (1, .int x1)] [.int r1] G1 _
  refine E_if_ne (tgt := 16) dX12_person_11 (by decide) (fun c => ?_) (fun c => ?_)
  · have hB := hB.1 c
    refine E_aload_n 0 dX12_person_16 rfl rfl rfl ?_
    refine E_iload_n 1 dX12_person_17 rfl rfl ?_
    refine E_pI fP_X12_281 rfl (lo_66 hL1) dX12_person_18 ?_
    refine E_aload_n 0 dX12_person_21 rfl rfl rfl ?_
    refine E_iconst (v := 1) dX12_person_22 (by decide) ?_
    refine E_pZ fP_X12_152 rfl (lo_66 hL1) (Or.inr rfl) dX12_person_23 ?_
    refine E_iconst (v := 1) dX12_person_26 (by decide) ?_
    exact E_zret rfl (Or.inr rfl) dX12_person_27 ⟨_, rfl, hE1, hB⟩
  · have hB := hB.2 c
    refine E_iconst (v := 0) dX12_person_14 (by decide) ?_
    exact E_zret rfl (Or.inl rfl) dX12_person_15 ⟨_, rfl, hE1, hB⟩

set_option maxRecDepth 20000 in
set_option maxHeartbeats 2000000 in
theorem kX12_hide_0 {K : KT} {G : St} {Q : Int32 → St → Prop} {x1 : Int32} {x2 : Int32} {x3 : Int32} (hL : Lay G.2.2) 
    (hB : EvI K mX12_within 0 0 [(0, .int x1), (1, .int 0), (2, .int 3)] [] (uI G 66 0 0) (fun r1 G1 => ((r1 = 0 → Q 0 G1) ∧ (¬ r1 = 0 → EvI K mX12_isRow 0 0 [(0, .ref 66), (1, .int x2)] [] G1 (fun r2 G2 => ((¬ r2 = 0 → vp_in ((30 * x1) + x2) 120 ∧ (x3 = 0 ∨ x3 = 1) ∧ Q 1 (uI (uI G2 83 (Int32.toNatClampNeg ((30 * x1) + x2)) x3) 66 15 1)) ∧ (r2 = 0 → Q 0 G2))))))) :
    EvI K mX12_hide 1 0 [(0, .ref 66), (1, .int x1), (2, .int x2), (3, .int x3)] [] G Q := by
  refine E_aload_n 0 dX12_hide_0 rfl rfl rfl ?_
  refine E_iconst (v := 0) dX12_hide_1 (by decide) ?_
  refine E_pI fP_X12_1 rfl (lo_66 hL) dX12_hide_2 ?_
  refine E_iload_n 1 dX12_hide_5 rfl rfl ?_
  refine E_iconst (v := 0) dX12_hide_6 (by decide) ?_
  refine E_iconst (v := 3) dX12_hide_7 (by decide) ?_
  refine E_callS (as := [.int x1, .int 0, .int 3]) (st := []) cm_X12_within cS_X12_277 rfl rfl (by decide) (Nat.le_of_ble_eq_true rfl) (Nat.le_of_ble_eq_true rfl) dX12_hide_8 hB (fun r G1 hr => ?_)
  obtain ⟨r1, rfl, hE1, hB⟩ := hr
  have hL1 : Lay G1.2.2 := by rw [hE1]; exact hL
  have hE1 : G1.2.2 = G.2.2 := hE1
  show Ev K mX12_hide 1 11 [(0, .ref 66), (1, .int x1), (2, .int x2), (3, .int x3)] [.int r1] G1 _
  refine E_if_eq (tgt := 22) dX12_hide_11 (by decide) (fun c => ?_) (fun c => ?_)
  · have hB := hB.1 c
    refine E_iconst (v := 0) dX12_hide_22 (by decide) ?_
    exact E_zret rfl (Or.inl rfl) dX12_hide_23 ⟨_, rfl, hE1, hB⟩
  · have hB := hB.2 c
    refine E_aload_n 0 dX12_hide_14 rfl rfl rfl ?_
    refine E_iload_n 2 dX12_hide_15 rfl rfl ?_
    refine E_cV (ci := 11) (as := [.int x2]) (st := []) cm_X12_isRow cV_X12_284 ⟨_, _, rfl⟩ (by decide) (lo_66 hL1) rfl rfl (by decide) (Nat.le_of_ble_eq_true rfl) (Nat.le_of_ble_eq_true rfl) dX12_hide_16 hB (fun r G2 hr => ?_)
    obtain ⟨r2, rfl, hE2, hB⟩ := hr
    have hL2 : Lay G2.2.2 := by rw [hE2]; exact hL1
    have hE2 : G2.2.2 = G.2.2 := hE2.trans hE1
    show Ev K mX12_hide 1 19 [(0, .ref 66), (1, .int x1), (2, .int x2), (3, .int x3)] [.int r2] G2 _
    refine E_if_ne (tgt := 24) dX12_hide_19 (by decide) (fun c => ?_) (fun c => ?_)
    · have hB := hB.1 c
      refine E_aload_n 0 dX12_hide_24 rfl rfl rfl ?_
      refine E_gR (j := 83) fG_X12_86 rfl (lo_66 hL2) (lr_66_28 hL2) (by decide) dX12_hide_25 ?_
      refine E_bipush (v := 30) dX12_hide_28 (by decide) ?_
      refine E_iload_n 1 dX12_hide_30 rfl rfl ?_
      refine E_imul dX12_hide_31 ?_
      refine E_iload_n 2 dX12_hide_32 rfl rfl ?_
      refine E_iadd dX12_hide_33 ?_
      refine E_iload_n 3 dX12_hide_34 rfl rfl ?_
      obtain ⟨qq3, hB⟩ := hB
      obtain ⟨qq4, hB⟩ := hB
      refine E_sZ (p := Int32.toNatClampNeg ((30 * x1) + x2)) (la_83 hL2) qq3 qq4 rfl dX12_hide_35 ?_
      refine E_aload_n 0 dX12_hide_36 rfl rfl rfl ?_
      refine E_iconst (v := 1) dX12_hide_37 (by decide) ?_
      refine E_pZ fP_X12_152 rfl (lo_66 hL2) (Or.inr rfl) dX12_hide_38 ?_
      refine E_iconst (v := 1) dX12_hide_41 (by decide) ?_
      exact E_zret rfl (Or.inr rfl) dX12_hide_42 ⟨_, rfl, hE2, hB⟩
    · have hB := hB.2 c
      refine E_iconst (v := 0) dX12_hide_22 (by decide) ?_
      exact E_zret rfl (Or.inl rfl) dX12_hide_23 ⟨_, rfl, hE2, hB⟩

set_option maxRecDepth 20000 in
set_option maxHeartbeats 2000000 in
theorem kX12_width_0 {K : KT} {G : St} {Q : Int32 → St → Prop} {x1 : Int32} (hL : Lay G.2.2) 
    (hB : EvI K mX12_within 0 0 [(0, .int x1), (1, .int 1), (2, .int 5)] [] (uI G 66 0 0) (fun r1 G1 => ((¬ r1 = 0 → Q 1 (uI (uI G1 66 27 x1) 66 15 1)) ∧ (r1 = 0 → Q 0 G1)))) :
    EvI K mX12_width 1 0 [(0, .ref 66), (1, .int x1)] [] G Q := by
  refine E_aload_n 0 dX12_width_0 rfl rfl rfl ?_
  refine E_iconst (v := 0) dX12_width_1 (by decide) ?_
  refine E_pI fP_X12_1 rfl (lo_66 hL) dX12_width_2 ?_
  refine E_iload_n 1 dX12_width_5 rfl rfl ?_
  refine E_iconst (v := 1) dX12_width_6 (by decide) ?_
  refine E_iconst (v := 5) dX12_width_7 (by decide) ?_
  refine E_callS (as := [.int x1, .int 1, .int 5]) (st := []) cm_X12_within cS_X12_277 rfl rfl (by decide) (Nat.le_of_ble_eq_true rfl) (Nat.le_of_ble_eq_true rfl) dX12_width_8 hB (fun r G1 hr => ?_)
  obtain ⟨r1, rfl, hE1, hB⟩ := hr
  have hL1 : Lay G1.2.2 := by rw [hE1]; exact hL
  have hE1 : G1.2.2 = G.2.2 := hE1
  show Ev K mX12_width 1 11 [(0, .ref 66), (1, .int x1)] [.int r1] G1 _
  refine E_if_ne (tgt := 16) dX12_width_11 (by decide) (fun c => ?_) (fun c => ?_)
  · have hB := hB.1 c
    refine E_aload_n 0 dX12_width_16 rfl rfl rfl ?_
    refine E_iload_n 1 dX12_width_17 rfl rfl ?_
    refine E_pI fP_X12_149 rfl (lo_66 hL1) dX12_width_18 ?_
    refine E_aload_n 0 dX12_width_21 rfl rfl rfl ?_
    refine E_iconst (v := 1) dX12_width_22 (by decide) ?_
    refine E_pZ fP_X12_152 rfl (lo_66 hL1) (Or.inr rfl) dX12_width_23 ?_
    refine E_iconst (v := 1) dX12_width_26 (by decide) ?_
    exact E_zret rfl (Or.inr rfl) dX12_width_27 ⟨_, rfl, hE1, hB⟩
  · have hB := hB.2 c
    refine E_iconst (v := 0) dX12_width_14 (by decide) ?_
    exact E_zret rfl (Or.inl rfl) dX12_width_15 ⟨_, rfl, hE1, hB⟩

set_option maxRecDepth 20000 in
set_option maxHeartbeats 2000000 in
theorem kX12_row_0 {K : KT} {G : St} {Q : Int32 → St → Prop} {x1 : Int32} {x2 : Int32} (hL : Lay G.2.2) 
    (hB : EvI K mX12_isRow 0 0 [(0, .ref 66), (1, .int x1)] [] G (fun r1 G1 => ((r1 = 0 → EvI K mX12_row 2 22 [(0, .ref 66), (1, .int x1), (2, .int x2)] [.ref 66] G1 Q) ∧ (¬ r1 = 0 → EvI K mX12_within 0 0 [(0, .int x2), (1, .int 0), (2, .int 2)] [] G1 (fun r2 G2 => ((r2 = 0 → EvI K mX12_row 2 22 [(0, .ref 66), (1, .int x1), (2, .int x2)] [.ref 66] G2 Q) ∧ (¬ r2 = 0 → EvI K mX12_row 2 23 [(0, .ref 66), (1, .int x1), (2, .int x2)] [.int 0, .ref 66] G2 Q))))))) :
    EvI K mX12_row 2 0 [(0, .ref 66), (1, .int x1), (2, .int x2)] [] G Q := by
  refine E_aload_n 0 dX12_row_0 rfl rfl rfl ?_
  refine E_aload_n 0 dX12_row_1 rfl rfl rfl ?_
  refine E_iload_n 1 dX12_row_2 rfl rfl ?_
  refine E_cV (ci := 11) (as := [.int x1]) (st := [.ref 66]) cm_X12_isRow cV_X12_284 ⟨_, _, rfl⟩ (by decide) (lo_66 hL) rfl rfl (by decide) (Nat.le_of_ble_eq_true rfl) (Nat.le_of_ble_eq_true rfl) dX12_row_3 hB (fun r G1 hr => ?_)
  obtain ⟨r1, rfl, hE1, hB⟩ := hr
  have hL1 : Lay G1.2.2 := by rw [hE1]; exact hL
  have hE1 : G1.2.2 = G.2.2 := hE1
  show Ev K mX12_row 2 6 [(0, .ref 66), (1, .int x1), (2, .int x2)] [.int r1, .ref 66] G1 _
  refine E_if_eq (tgt := 22) dX12_row_6 (by decide) (fun c => ?_) (fun c => ?_)
  · have hB := hB.1 c
    exact EvI.tr hB hE1
  · have hB := hB.2 c
    refine E_iload_n 2 dX12_row_9 rfl rfl ?_
    refine E_iconst (v := 0) dX12_row_10 (by decide) ?_
    refine E_iconst (v := 2) dX12_row_11 (by decide) ?_
    refine E_callS (as := [.int x2, .int 0, .int 2]) (st := [.ref 66]) cm_X12_within cS_X12_277 rfl rfl (by decide) (Nat.le_of_ble_eq_true rfl) (Nat.le_of_ble_eq_true rfl) dX12_row_12 hB (fun r G2 hr => ?_)
    obtain ⟨r2, rfl, hE2, hB⟩ := hr
    have hL2 : Lay G2.2.2 := by rw [hE2]; exact hL1
    have hE2 : G2.2.2 = G.2.2 := hE2.trans hE1
    show Ev K mX12_row 2 15 [(0, .ref 66), (1, .int x1), (2, .int x2)] [.int r2, .ref 66] G2 _
    refine E_if_eq (tgt := 22) dX12_row_15 (by decide) (fun c => ?_) (fun c => ?_)
    · have hB := hB.1 c
      exact EvI.tr hB hE2
    · have hB := hB.2 c
      refine E_iconst (v := 0) dX12_row_18 (by decide) ?_
      refine E_goto (tgt := 23) dX12_row_19 (by decide) ?_
      exact EvI.tr hB hE2

set_option maxRecDepth 20000 in
set_option maxHeartbeats 2000000 in
theorem kX12_row_22 {K : KT} {G : St} {Q : Int32 → St → Prop} {x1 : Int32} {x2 : Int32} (hL : Lay G.2.2) 
    (hB : EvI K mX12_row 2 23 [(0, .ref 66), (1, .int x1), (2, .int x2)] [.int 1, .ref 66] G Q) :
    EvI K mX12_row 2 22 [(0, .ref 66), (1, .int x1), (2, .int x2)] [.ref 66] G Q := by
  refine E_iconst (v := 1) dX12_row_22 (by decide) ?_
  exact EvI.tr hB rfl

set_option maxRecDepth 20000 in
set_option maxHeartbeats 2000000 in
theorem kX12_row_23 {K : KT} {G : St} {Q : Int32 → St → Prop} {x1 : Int32} {x2 : Int32} {xs1 : Int32} (hL : Lay G.2.2) 
    (hB : ((xs1 ≤ 0 → ((x2 = 1 → EvI K mX12_row 2 72 [(0, .ref 66), (1, .int x1), (3, .int 0), (4, .int 0)] [] (uI G 66 0 xs1) Q) ∧ (¬ x2 = 1 → ((¬ x2 = 0 → EvI K mX12_isSeen 1 0 [(0, .ref 66), (1, .int x1)] [] (uI G 66 0 xs1) (fun r1 G1 => ((r1 = 0 → Q 0 G1) ∧ (¬ r1 = 0 → Q 1 G1)))) ∧ (x2 = 0 → vp_in x1 31 ∧ Q (sI G 77 (Int32.toNatClampNeg x1)) (uI G 66 0 xs1)))))) ∧ (¬ xs1 ≤ 0 → Q 0 (uI G 66 0 xs1)))) :
    EvI K mX12_row 2 23 [(0, .ref 66), (1, .int x1), (2, .int x2)] [.int xs1, .ref 66] G Q := by
  refine E_pI fP_X12_1 rfl (lo_66 hL) dX12_row_23 ?_
  refine E_aload_n 0 dX12_row_26 rfl rfl rfl ?_
  refine E_gI (v := xs1) fG_X12_1 rfl (lo_66 hL) rfl dX12_row_27 ?_
  refine E_if_le (tgt := 35) dX12_row_30 (by decide) (fun c => ?_) (fun c => ?_)
  · have hB := hB.1 c
    refine E_iload_n 2 dX12_row_35 rfl rfl ?_
    refine E_iconst (v := 1) dX12_row_36 (by decide) ?_
    refine E_icmp_eq (tgt := 67) dX12_row_37 (by decide) (fun c => ?_) (fun c => ?_)
    · have hB := hB.1 c
      refine E_iconst (v := 0) dX12_row_67 (by decide) ?_
      refine E_istore_n (lv' := [(0, .ref 66), (1, .int x1), (2, .int x2), (3, .int 0)]) dX12_row_68 rfl (by decide) rfl ?_
      refine E_iconst (v := 0) dX12_row_69 (by decide) ?_
      refine E_istore (lv' := [(0, .ref 66), (1, .int x1), (2, .int x2), (3, .int 0), (4, .int 0)]) dX12_row_70 (by decide) rfl ?_
      refine E_sub (lv' := [(0, .ref 66), (1, .int x1), (3, .int 0), (4, .int 0)]) [0, 1, 3, 4] rfl ?_
      exact EvI.tr hB rfl
    · have hB := hB.2 c
      refine E_iload_n 2 dX12_row_40 rfl rfl ?_
      refine E_if_ne (tgt := 53) dX12_row_41 (by decide) (fun c => ?_) (fun c => ?_)
      · have hB := hB.1 c
        refine E_aload_n 0 dX12_row_53 rfl rfl rfl ?_
        refine E_iload_n 1 dX12_row_54 rfl rfl ?_
        refine E_cV (ci := 11) (as := [.int x1]) (st := []) cm_X12_isSeen cV_X12_287 ⟨_, _, rfl⟩ (by decide) (lo_66 hL) rfl rfl (by decide) (Nat.le_of_ble_eq_true rfl) (Nat.le_of_ble_eq_true rfl) dX12_row_55 hB (fun r G1 hr => ?_)
        obtain ⟨r1, rfl, hE1, hB⟩ := hr
        have hL1 : Lay G1.2.2 := by rw [hE1]; exact hL
        have hE1 : G1.2.2 = G.2.2 := hE1
        show Ev K mX12_row 2 58 [(0, .ref 66), (1, .int x1), (2, .int x2)] [.int r1] G1 _
        refine E_if_eq (tgt := 65) dX12_row_58 (by decide) (fun c => ?_) (fun c => ?_)
        · have hB := hB.1 c
          refine E_iconst (v := 0) dX12_row_65 (by decide) ?_
          exact E_iret rfl dX12_row_66 ⟨_, rfl, hE1, hB⟩
        · have hB := hB.2 c
          refine E_iconst (v := 1) dX12_row_61 (by decide) ?_
          refine E_goto (tgt := 66) dX12_row_62 (by decide) ?_
          exact E_iret rfl dX12_row_66 ⟨_, rfl, hE1, hB⟩
      · have hB := hB.2 c
        refine E_aload_n 0 dX12_row_44 rfl rfl rfl ?_
        refine E_gR (j := 77) fG_X12_68 rfl (lo_66 hL) (lr_66_18 hL) (by decide) dX12_row_45 ?_
        refine E_iload_n 1 dX12_row_48 rfl rfl ?_
        obtain ⟨qq2, hB⟩ := hB
        refine E_aI (p := Int32.toNatClampNeg x1) (v := sI G 77 (Int32.toNatClampNeg x1)) (la_77 hL) qq2 rfl rfl dX12_row_49 ?_
        refine E_goto (tgt := 66) dX12_row_50 (by decide) ?_
        exact E_iret rfl dX12_row_66 ⟨_, rfl, rfl, hB⟩
  · have hB := hB.2 c
    refine E_iconst (v := 0) dX12_row_33 (by decide) ?_
    exact E_iret rfl dX12_row_34 ⟨_, rfl, rfl, hB⟩

set_option maxRecDepth 20000 in
set_option maxHeartbeats 2000000 in
theorem kX12_row_72 {K : KT} {G : St} {Q : Int32 → St → Prop} {x1 : Int32} {x3 : Int32} {x4 : Int32} (hL : Lay G.2.2) 
    (hB : ((x1 ≤ x4 → Q x3 G) ∧ (¬ x1 ≤ x4 → vp_in x4 31 ∧ vp_in x1 31 ∧ ((¬ (sI G 77 (Int32.toNatClampNeg x4)) = (sI G 77 (Int32.toNatClampNeg x1)) → EvI K mX12_row 2 100 [(0, .ref 66), (1, .int x1), (4, .int x4)] [.int 0, .int x3] G Q) ∧ ((sI G 77 (Int32.toNatClampNeg x4)) = (sI G 77 (Int32.toNatClampNeg x1)) → EvI K mX12_row 2 100 [(0, .ref 66), (1, .int x1), (4, .int x4)] [.int 1, .int x3] G Q))))) :
    EvI K mX12_row 2 72 [(0, .ref 66), (1, .int x1), (3, .int x3), (4, .int x4)] [] G Q := by
  refine E_iload 3 dX12_row_72 rfl ?_
  refine E_iload_n 1 dX12_row_74 rfl rfl ?_
  refine E_icmp_ge (tgt := 108) dX12_row_75 (by decide) (fun c => ?_) (fun c => ?_)
  · have hB := hB.1 c
    refine E_iload_n 2 dX12_row_108 rfl rfl ?_
    exact E_iret rfl dX12_row_109 ⟨_, rfl, rfl, hB⟩
  · have hB := hB.2 c
    refine E_iload_n 2 dX12_row_78 rfl rfl ?_
    refine E_aload_n 0 dX12_row_79 rfl rfl rfl ?_
    refine E_gR (j := 77) fG_X12_68 rfl (lo_66 hL) (lr_66_18 hL) (by decide) dX12_row_80 ?_
    refine E_iload 3 dX12_row_83 rfl ?_
    obtain ⟨qq1, hB⟩ := hB
    refine E_aI (p := Int32.toNatClampNeg x4) (v := sI G 77 (Int32.toNatClampNeg x4)) (la_77 hL) qq1 rfl rfl dX12_row_85 ?_
    refine E_aload_n 0 dX12_row_86 rfl rfl rfl ?_
    refine E_gR (j := 77) fG_X12_68 rfl (lo_66 hL) (lr_66_18 hL) (by decide) dX12_row_87 ?_
    refine E_iload_n 1 dX12_row_90 rfl rfl ?_
    obtain ⟨qq2, hB⟩ := hB
    refine E_aI (p := Int32.toNatClampNeg x1) (v := sI G 77 (Int32.toNatClampNeg x1)) (la_77 hL) qq2 rfl rfl dX12_row_91 ?_
    refine E_icmp_ne (tgt := 99) dX12_row_92 (by decide) (fun c => ?_) (fun c => ?_)
    · have hB := hB.1 c
      refine E_iconst (v := 0) dX12_row_99 (by decide) ?_
      refine E_sub (lv' := [(0, .ref 66), (1, .int x1), (4, .int x4)]) [0, 1, 3] rfl ?_
      exact EvI.tr hB rfl
    · have hB := hB.2 c
      refine E_iconst (v := 1) dX12_row_95 (by decide) ?_
      refine E_goto (tgt := 100) dX12_row_96 (by decide) ?_
      refine E_sub (lv' := [(0, .ref 66), (1, .int x1), (4, .int x4)]) [0, 1, 3] rfl ?_
      exact EvI.tr hB rfl

set_option maxRecDepth 20000 in
set_option maxHeartbeats 2000000 in
theorem kX12_row_100 {K : KT} {G : St} {Q : Int32 → St → Prop} {x1 : Int32} {x4 : Int32} {xs0 : Int32} {xs1 : Int32} (hL : Lay G.2.2) 
    (hB : EvI K mX12_row 2 72 [(0, .ref 66), (1, .int x1), (3, .int (xs0 + xs1)), (4, .int (x4 + 1))] [] G Q) :
    EvI K mX12_row 2 100 [(0, .ref 66), (1, .int x1), (4, .int x4)] [.int xs1, .int xs0] G Q := by
  refine E_iadd dX12_row_100 ?_
  refine E_istore_n (lv' := [(0, .ref 66), (1, .int x1), (3, .int (xs0 + xs1)), (4, .int x4)]) dX12_row_101 rfl (by decide) rfl ?_
  refine E_iinc (v := x4 + 1) (lv' := [(0, .ref 66), (1, .int x1), (3, .int (xs0 + xs1)), (4, .int (x4 + 1))]) 3 dX12_row_102 rfl rfl (by decide) rfl ?_
  refine E_goto (tgt := 72) dX12_row_105 (by decide) ?_
  exact EvI.tr hB rfl

set_option maxRecDepth 20000 in
set_option maxHeartbeats 2000000 in
theorem kX12_isText_0 {K : KT} {G : St} {Q : Int32 → St → Prop} {x1 : Int32} {x2 : Int32} (hL : Lay G.2.2) 
    (hB : vp_in x1 31 ∧ vp_in (sI G 77 (Int32.toNatClampNeg x1)) 10 ∧ (((sI G 74 (Int32.toNatClampNeg (sI G 77 (Int32.toNatClampNeg x1)))) ≤ x2 → Q 0 G) ∧ (¬ (sI G 74 (Int32.toNatClampNeg (sI G 77 (Int32.toNatClampNeg x1)))) ≤ x2 → EvI K mX12_kindOf 0 0 [(0, .ref 66), (1, .int x1), (2, .int x2)] [] G (fun r3 G3 => ((¬ r3 = 5 → Q 0 G3) ∧ (r3 = 5 → Q 1 G3)))))) :
    EvI K mX12_isText 1 0 [(0, .ref 66), (1, .int x1), (2, .int x2)] [] G Q := by
  refine E_iload_n 2 dX12_isText_0 rfl rfl ?_
  refine E_aload_n 0 dX12_isText_1 rfl rfl rfl ?_
  refine E_gR (j := 74) fG_X12_59 rfl (lo_66 hL) (lr_66_12 hL) (by decide) dX12_isText_2 ?_
  refine E_aload_n 0 dX12_isText_5 rfl rfl rfl ?_
  refine E_gR (j := 77) fG_X12_68 rfl (lo_66 hL) (lr_66_18 hL) (by decide) dX12_isText_6 ?_
  refine E_iload_n 1 dX12_isText_9 rfl rfl ?_
  obtain ⟨qq1, hB⟩ := hB
  refine E_aI (p := Int32.toNatClampNeg x1) (v := sI G 77 (Int32.toNatClampNeg x1)) (la_77 hL) qq1 rfl rfl dX12_isText_10 ?_
  obtain ⟨qq2, hB⟩ := hB
  refine E_aI (p := Int32.toNatClampNeg (sI G 77 (Int32.toNatClampNeg x1))) (v := sI G 74 (Int32.toNatClampNeg (sI G 77 (Int32.toNatClampNeg x1)))) (la_74 hL) qq2 rfl rfl dX12_isText_11 ?_
  refine E_icmp_ge (tgt := 29) dX12_isText_12 (by decide) (fun c => ?_) (fun c => ?_)
  · have hB := hB.1 c
    refine E_iconst (v := 0) dX12_isText_29 (by decide) ?_
    exact E_zret rfl (Or.inl rfl) dX12_isText_30 ⟨_, rfl, rfl, hB⟩
  · have hB := hB.2 c
    refine E_aload_n 0 dX12_isText_15 rfl rfl rfl ?_
    refine E_iload_n 1 dX12_isText_16 rfl rfl ?_
    refine E_iload_n 2 dX12_isText_17 rfl rfl ?_
    refine E_cV (ci := 11) (as := [.int x1, .int x2]) (st := []) cm_X12_kindOf cV_X12_290 ⟨_, _, rfl⟩ (by decide) (lo_66 hL) rfl rfl (by decide) (Nat.le_of_ble_eq_true rfl) (Nat.le_of_ble_eq_true rfl) dX12_isText_18 hB (fun r G3 hr => ?_)
    obtain ⟨r3, rfl, hE3, hB⟩ := hr
    have hL3 : Lay G3.2.2 := by rw [hE3]; exact hL
    have hE3 : G3.2.2 = G.2.2 := hE3
    show Ev K mX12_isText 1 21 [(0, .ref 66), (1, .int x1), (2, .int x2)] [.int r3] G3 _
    refine E_iconst (v := 5) dX12_isText_21 (by decide) ?_
    refine E_icmp_ne (tgt := 29) dX12_isText_22 (by decide) (fun c => ?_) (fun c => ?_)
    · have hB := hB.1 c
      refine E_iconst (v := 0) dX12_isText_29 (by decide) ?_
      exact E_zret rfl (Or.inl rfl) dX12_isText_30 ⟨_, rfl, hE3, hB⟩
    · have hB := hB.2 c
      refine E_iconst (v := 1) dX12_isText_25 (by decide) ?_
      refine E_goto (tgt := 30) dX12_isText_26 (by decide) ?_
      exact E_zret rfl (Or.inr rfl) dX12_isText_30 ⟨_, rfl, hE3, hB⟩

set_option maxRecDepth 20000 in
set_option maxHeartbeats 2000000 in
theorem kX12_cell_0 {K : KT} {G : St} {Q : Int64 → St → Prop} {x1 : Int32} {x2 : Int32} (hL : Lay G.2.2) 
    (hB : EvI K mX12_isSeen 1 0 [(0, .ref 66), (1, .int x1)] [] (uI G 66 0 0) (fun r1 G1 => ((r1 = 0 → Q (-1) G1) ∧ (¬ r1 = 0 → vp_in x1 31 ∧ vp_in (sI G1 77 (Int32.toNatClampNeg x1)) 10 ∧ EvI K mX12_within 0 0 [(0, .int x2), (1, .int 0), (2, .int ((sI G1 74 (Int32.toNatClampNeg (sI G1 77 (Int32.toNatClampNeg x1)))) - 1))] [] G1 (fun r4 G4 => ((¬ r4 = 0 → vp_in ((4 * x1) + x2) 124 ∧ EvI K mX12_kindOf 0 0 [(0, .ref 66), (1, .int x1), (2, .int x2)] [] G4 (fun r6 G6 => ((5 ≤ r6 → Q (sL G4 78 (Int32.toNatClampNeg ((4 * x1) + x2))) G6) ∧ (¬ 5 ≤ r6 → EvI K mX12_isSeen 1 0 [(0, .ref 66), (1, .int (Int64.toInt32 (sL G4 78 (Int32.toNatClampNeg ((4 * x1) + x2)))))] [] G6 (fun r7 G7 => ((¬ r7 = 0 → Q (sL G4 78 (Int32.toNatClampNeg ((4 * x1) + x2))) G7) ∧ (r7 = 0 → Q (-1) G7))))))) ∧ (r4 = 0 → Q (-1) G4))))))) :
    EvL K mX12_cell 2 0 [(0, .ref 66), (1, .int x1), (2, .int x2)] [] G Q := by
  refine E_aload_n 0 dX12_cell_0 rfl rfl rfl ?_
  refine E_iconst (v := 0) dX12_cell_1 (by decide) ?_
  refine E_pI fP_X12_1 rfl (lo_66 hL) dX12_cell_2 ?_
  refine E_aload_n 0 dX12_cell_5 rfl rfl rfl ?_
  refine E_iload_n 1 dX12_cell_6 rfl rfl ?_
  refine E_cV (ci := 11) (as := [.int x1]) (st := []) cm_X12_isSeen cV_X12_287 ⟨_, _, rfl⟩ (by decide) (lo_66 hL) rfl rfl (by decide) (Nat.le_of_ble_eq_true rfl) (Nat.le_of_ble_eq_true rfl) dX12_cell_7 hB (fun r G1 hr => ?_)
  obtain ⟨r1, rfl, hE1, hB⟩ := hr
  have hL1 : Lay G1.2.2 := by rw [hE1]; exact hL
  have hE1 : G1.2.2 = G.2.2 := hE1
  show Ev K mX12_cell 2 10 [(0, .ref 66), (1, .int x1), (2, .int x2)] [.int r1] G1 _
  refine E_if_eq (tgt := 34) dX12_cell_10 (by decide) (fun c => ?_) (fun c => ?_)
  · have hB := hB.1 c
    refine E_ldc2 (v := (-1)) tm_1559 dX12_cell_34 ?_
    exact E_lret rfl dX12_cell_37 ⟨_, rfl, hE1, hB⟩
  · have hB := hB.2 c
    refine E_iload_n 2 dX12_cell_13 rfl rfl ?_
    refine E_iconst (v := 0) dX12_cell_14 (by decide) ?_
    refine E_aload_n 0 dX12_cell_15 rfl rfl rfl ?_
    refine E_gR (j := 74) fG_X12_59 rfl (lo_66 hL1) (lr_66_12 hL1) (by decide) dX12_cell_16 ?_
    refine E_aload_n 0 dX12_cell_19 rfl rfl rfl ?_
    refine E_gR (j := 77) fG_X12_68 rfl (lo_66 hL1) (lr_66_18 hL1) (by decide) dX12_cell_20 ?_
    refine E_iload_n 1 dX12_cell_23 rfl rfl ?_
    obtain ⟨qq2, hB⟩ := hB
    refine E_aI (p := Int32.toNatClampNeg x1) (v := sI G1 77 (Int32.toNatClampNeg x1)) (la_77 hL1) qq2 rfl rfl dX12_cell_24 ?_
    obtain ⟨qq3, hB⟩ := hB
    refine E_aI (p := Int32.toNatClampNeg (sI G1 77 (Int32.toNatClampNeg x1))) (v := sI G1 74 (Int32.toNatClampNeg (sI G1 77 (Int32.toNatClampNeg x1)))) (la_74 hL1) qq3 rfl rfl dX12_cell_25 ?_
    refine E_iconst (v := 1) dX12_cell_26 (by decide) ?_
    refine E_isub dX12_cell_27 ?_
    refine E_callS (as := [.int x2, .int 0, .int ((sI G1 74 (Int32.toNatClampNeg (sI G1 77 (Int32.toNatClampNeg x1)))) - 1)]) (st := []) cm_X12_within cS_X12_277 rfl rfl (by decide) (Nat.le_of_ble_eq_true rfl) (Nat.le_of_ble_eq_true rfl) dX12_cell_28 hB (fun r G4 hr => ?_)
    obtain ⟨r4, rfl, hE4, hB⟩ := hr
    have hL4 : Lay G4.2.2 := by rw [hE4]; exact hL1
    have hE4 : G4.2.2 = G.2.2 := hE4.trans hE1
    show Ev K mX12_cell 2 31 [(0, .ref 66), (1, .int x1), (2, .int x2)] [.int r4] G4 _
    refine E_if_ne (tgt := 38) dX12_cell_31 (by decide) (fun c => ?_) (fun c => ?_)
    · have hB := hB.1 c
      refine E_aload_n 0 dX12_cell_38 rfl rfl rfl ?_
      refine E_gR (j := 78) fG_X12_71 rfl (lo_66 hL4) (lr_66_19 hL4) (by decide) dX12_cell_39 ?_
      refine E_iconst (v := 4) dX12_cell_42 (by decide) ?_
      refine E_iload_n 1 dX12_cell_43 rfl rfl ?_
      refine E_imul dX12_cell_44 ?_
      refine E_iload_n 2 dX12_cell_45 rfl rfl ?_
      refine E_iadd dX12_cell_46 ?_
      obtain ⟨qq5, hB⟩ := hB
      refine E_aL (p := Int32.toNatClampNeg ((4 * x1) + x2)) (v := sL G4 78 (Int32.toNatClampNeg ((4 * x1) + x2))) (la_78 hL4) qq5 rfl rfl dX12_cell_47 ?_
      refine E_lstore_n (lv' := [(0, .ref 66), (1, .int x1), (2, .int x2), (3, .long (sL G4 78 (Int32.toNatClampNeg ((4 * x1) + x2))))]) dX12_cell_48 rfl (by decide) rfl ?_
      refine E_aload_n 0 dX12_cell_49 rfl rfl rfl ?_
      refine E_iload_n 1 dX12_cell_50 rfl rfl ?_
      refine E_iload_n 2 dX12_cell_51 rfl rfl ?_
      refine E_cV (ci := 11) (as := [.int x1, .int x2]) (st := []) cm_X12_kindOf cV_X12_290 ⟨_, _, rfl⟩ (by decide) (lo_66 hL4) rfl rfl (by decide) (Nat.le_of_ble_eq_true rfl) (Nat.le_of_ble_eq_true rfl) dX12_cell_52 hB (fun r G6 hr => ?_)
      obtain ⟨r6, rfl, hE6, hB⟩ := hr
      have hL6 : Lay G6.2.2 := by rw [hE6]; exact hL4
      have hE6 : G6.2.2 = G.2.2 := hE6.trans hE4
      show Ev K mX12_cell 2 55 [(0, .ref 66), (1, .int x1), (2, .int x2), (3, .long (sL G4 78 (Int32.toNatClampNeg ((4 * x1) + x2))))] [.int r6] G6 _
      refine E_iconst (v := 5) dX12_cell_55 (by decide) ?_
      refine E_icmp_ge (tgt := 74) dX12_cell_56 (by decide) (fun c => ?_) (fun c => ?_)
      · have hB := hB.1 c
        refine E_lload_n 3 dX12_cell_74 rfl rfl ?_
        exact E_lret rfl dX12_cell_75 ⟨_, rfl, hE6, hB⟩
      · have hB := hB.2 c
        refine E_aload_n 0 dX12_cell_59 rfl rfl rfl ?_
        refine E_lload_n 3 dX12_cell_60 rfl rfl ?_
        refine E_l2i dX12_cell_61 rfl ?_
        refine E_cV (ci := 11) (as := [.int (Int64.toInt32 (sL G4 78 (Int32.toNatClampNeg ((4 * x1) + x2))))]) (st := []) cm_X12_isSeen cV_X12_287 ⟨_, _, rfl⟩ (by decide) (lo_66 hL6) rfl rfl (by decide) (Nat.le_of_ble_eq_true rfl) (Nat.le_of_ble_eq_true rfl) dX12_cell_62 hB (fun r G7 hr => ?_)
        obtain ⟨r7, rfl, hE7, hB⟩ := hr
        have hL7 : Lay G7.2.2 := by rw [hE7]; exact hL6
        have hE7 : G7.2.2 = G.2.2 := hE7.trans hE6
        show Ev K mX12_cell 2 65 [(0, .ref 66), (1, .int x1), (2, .int x2), (3, .long (sL G4 78 (Int32.toNatClampNeg ((4 * x1) + x2))))] [.int r7] G7 _
        refine E_if_ne (tgt := 74) dX12_cell_65 (by decide) (fun c => ?_) (fun c => ?_)
        · have hB := hB.1 c
          refine E_lload_n 3 dX12_cell_74 rfl rfl ?_
          exact E_lret rfl dX12_cell_75 ⟨_, rfl, hE7, hB⟩
        · have hB := hB.2 c
          refine E_ldc2 (v := (-1)) tm_1559 dX12_cell_68 ?_
          refine E_goto (tgt := 75) dX12_cell_71 (by decide) ?_
          exact E_lret rfl dX12_cell_75 ⟨_, rfl, hE7, hB⟩
    · have hB := hB.2 c
      refine E_ldc2 (v := (-1)) tm_1559 dX12_cell_34 ?_
      exact E_lret rfl dX12_cell_37 ⟨_, rfl, hE4, hB⟩

set_option maxRecDepth 20000 in
set_option maxHeartbeats 2000000 in
theorem kX12_isColumn_0 {K : KT} {G : St} {Q : Int32 → St → Prop} {x1 : Int32} {x2 : Int32} {x3 : Int32} (hL : Lay G.2.2) 
    (hB : (((sI G 72 0) ≤ x1 → Q 0 G) ∧ (¬ (sI G 72 0) ≤ x1 → vp_in x1 10 ∧ (((sI G 74 (Int32.toNatClampNeg x1)) ≤ x2 → Q 0 G) ∧ (¬ (sI G 74 (Int32.toNatClampNeg x1)) ≤ x2 → vp_in ((4 * x1) + x2) 40 ∧ ((¬ (sI G 76 (Int32.toNatClampNeg ((4 * x1) + x2))) = x3 → Q 0 G) ∧ ((sI G 76 (Int32.toNatClampNeg ((4 * x1) + x2))) = x3 → Q 1 G))))))) :
    EvI K mX12_isColumn 0 0 [(0, .ref 66), (1, .int x1), (2, .int x2), (3, .int x3)] [] G Q := by
  refine E_iload_n 1 dX12_isColumn_0 rfl rfl ?_
  refine E_aload_n 0 dX12_isColumn_1 rfl rfl rfl ?_
  refine E_gR (j := 72) fG_X12_53 rfl (lo_66 hL) (lr_66_10 hL) (by decide) dX12_isColumn_2 ?_
  refine E_iconst (v := 0) dX12_isColumn_5 (by decide) ?_
  refine E_aI (p := 0) (v := sI G 72 0) (la_72 hL) (by unfold vp_in; decide) (by decide) rfl dX12_isColumn_6 ?_
  refine E_icmp_ge (tgt := 38) dX12_isColumn_7 (by decide) (fun c => ?_) (fun c => ?_)
  · have hB := hB.1 c
    refine E_iconst (v := 0) dX12_isColumn_38 (by decide) ?_
    exact E_zret rfl (Or.inl rfl) dX12_isColumn_39 ⟨_, rfl, rfl, hB⟩
  · have hB := hB.2 c
    refine E_iload_n 2 dX12_isColumn_10 rfl rfl ?_
    refine E_aload_n 0 dX12_isColumn_11 rfl rfl rfl ?_
    refine E_gR (j := 74) fG_X12_59 rfl (lo_66 hL) (lr_66_12 hL) (by decide) dX12_isColumn_12 ?_
    refine E_iload_n 1 dX12_isColumn_15 rfl rfl ?_
    obtain ⟨qq1, hB⟩ := hB
    refine E_aI (p := Int32.toNatClampNeg x1) (v := sI G 74 (Int32.toNatClampNeg x1)) (la_74 hL) qq1 rfl rfl dX12_isColumn_16 ?_
    refine E_icmp_ge (tgt := 38) dX12_isColumn_17 (by decide) (fun c => ?_) (fun c => ?_)
    · have hB := hB.1 c
      refine E_iconst (v := 0) dX12_isColumn_38 (by decide) ?_
      exact E_zret rfl (Or.inl rfl) dX12_isColumn_39 ⟨_, rfl, rfl, hB⟩
    · have hB := hB.2 c
      refine E_aload_n 0 dX12_isColumn_20 rfl rfl rfl ?_
      refine E_gR (j := 76) fG_X12_65 rfl (lo_66 hL) (lr_66_14 hL) (by decide) dX12_isColumn_21 ?_
      refine E_iconst (v := 4) dX12_isColumn_24 (by decide) ?_
      refine E_iload_n 1 dX12_isColumn_25 rfl rfl ?_
      refine E_imul dX12_isColumn_26 ?_
      refine E_iload_n 2 dX12_isColumn_27 rfl rfl ?_
      refine E_iadd dX12_isColumn_28 ?_
      obtain ⟨qq2, hB⟩ := hB
      refine E_aI (p := Int32.toNatClampNeg ((4 * x1) + x2)) (v := sI G 76 (Int32.toNatClampNeg ((4 * x1) + x2))) (la_76 hL) qq2 rfl rfl dX12_isColumn_29 ?_
      refine E_iload_n 3 dX12_isColumn_30 rfl rfl ?_
      refine E_icmp_ne (tgt := 38) dX12_isColumn_31 (by decide) (fun c => ?_) (fun c => ?_)
      · have hB := hB.1 c
        refine E_iconst (v := 0) dX12_isColumn_38 (by decide) ?_
        exact E_zret rfl (Or.inl rfl) dX12_isColumn_39 ⟨_, rfl, rfl, hB⟩
      · have hB := hB.2 c
        refine E_iconst (v := 1) dX12_isColumn_34 (by decide) ?_
        refine E_goto (tgt := 39) dX12_isColumn_35 (by decide) ?_
        exact E_zret rfl (Or.inr rfl) dX12_isColumn_39 ⟨_, rfl, rfl, hB⟩

set_option maxRecDepth 20000 in
set_option maxHeartbeats 2000000 in
theorem kX12_isEach_0 {K : KT} {G : St} {Q : Int32 → St → Prop} {x1 : Int32} {x2 : Int32} (hL : Lay G.2.2) 
    (hB : EvI K mX12_isEach 2 5 [(0, .ref 66), (1, .int x1), (2, .int x2), (3, .int 0), (4, .int 0)] [] G Q) :
    EvI K mX12_isEach 2 0 [(0, .ref 66), (1, .int x1), (2, .int x2)] [] G Q := by
  refine E_iconst (v := 0) dX12_isEach_0 (by decide) ?_
  refine E_istore_n (lv' := [(0, .ref 66), (1, .int x1), (2, .int x2), (3, .int 0)]) dX12_isEach_1 rfl (by decide) rfl ?_
  refine E_iconst (v := 0) dX12_isEach_2 (by decide) ?_
  refine E_istore (lv' := [(0, .ref 66), (1, .int x1), (2, .int x2), (3, .int 0), (4, .int 0)]) dX12_isEach_3 (by decide) rfl ?_
  exact EvI.tr hB rfl

set_option maxRecDepth 20000 in
set_option maxHeartbeats 2000000 in
theorem kX12_isEach_5 {K : KT} {G : St} {Q : Int32 → St → Prop} {x1 : Int32} {x2 : Int32} {x3 : Int32} {x4 : Int32} (hL : Lay G.2.2) 
    (hB : (((sI G 66 16) ≤ x4 → (x3 = 0 ∨ x3 = 1) ∧ Q x3 G) ∧ (¬ (sI G 66 16) ≤ x4 → vp_in x4 31 ∧ ((¬ (sI G 77 (Int32.toNatClampNeg x4)) = x1 → EvI K mX12_isEach 2 100 [(0, .ref 66), (1, .int x1), (2, .int x2), (3, .int x3), (4, .int x4)] [] G Q) ∧ ((sI G 77 (Int32.toNatClampNeg x4)) = x1 → EvI K mX12_isSeen 1 0 [(0, .ref 66), (1, .int x4)] [] G (fun r3 G3 => ((r3 = 0 → EvI K mX12_isEach 2 100 [(0, .ref 66), (1, .int x1), (2, .int x2), (3, .int x3), (4, .int x4)] [] G3 Q) ∧ (¬ r3 = 0 → EvI K mX12_isEach 2 39 [(0, .ref 66), (1, .int x1), (2, .int x2), (3, .int 1), (4, .int x4), (5, .int 0)] [] G3 Q)))))))) :
    EvI K mX12_isEach 2 5 [(0, .ref 66), (1, .int x1), (2, .int x2), (3, .int x3), (4, .int x4)] [] G Q := by
  refine E_iload 4 dX12_isEach_5 rfl ?_
  refine E_aload_n 0 dX12_isEach_7 rfl rfl rfl ?_
  refine E_gI (v := sI G 66 16) fG_X12_223 rfl (lo_66 hL) rfl dX12_isEach_8 ?_
  refine E_icmp_ge (tgt := 106) dX12_isEach_11 (by decide) (fun c => ?_) (fun c => ?_)
  · have hB := hB.1 c
    refine E_iload_n 3 dX12_isEach_106 rfl rfl ?_
    obtain ⟨qq1, hB⟩ := hB
    exact E_zret rfl qq1 dX12_isEach_107 ⟨_, rfl, rfl, hB⟩
  · have hB := hB.2 c
    refine E_aload_n 0 dX12_isEach_14 rfl rfl rfl ?_
    refine E_gR (j := 77) fG_X12_68 rfl (lo_66 hL) (lr_66_18 hL) (by decide) dX12_isEach_15 ?_
    refine E_iload 4 dX12_isEach_18 rfl ?_
    obtain ⟨qq2, hB⟩ := hB
    refine E_aI (p := Int32.toNatClampNeg x4) (v := sI G 77 (Int32.toNatClampNeg x4)) (la_77 hL) qq2 rfl rfl dX12_isEach_20 ?_
    refine E_iload_n 1 dX12_isEach_21 rfl rfl ?_
    refine E_icmp_ne (tgt := 100) dX12_isEach_22 (by decide) (fun c => ?_) (fun c => ?_)
    · have hB := hB.1 c
      exact EvI.tr hB rfl
    · have hB := hB.2 c
      refine E_aload_n 0 dX12_isEach_25 rfl rfl rfl ?_
      refine E_iload 4 dX12_isEach_26 rfl ?_
      refine E_cV (ci := 11) (as := [.int x4]) (st := []) cm_X12_isSeen cV_X12_287 ⟨_, _, rfl⟩ (by decide) (lo_66 hL) rfl rfl (by decide) (Nat.le_of_ble_eq_true rfl) (Nat.le_of_ble_eq_true rfl) dX12_isEach_28 hB (fun r G3 hr => ?_)
      obtain ⟨r3, rfl, hE3, hB⟩ := hr
      have hL3 : Lay G3.2.2 := by rw [hE3]; exact hL
      have hE3 : G3.2.2 = G.2.2 := hE3
      show Ev K mX12_isEach 2 31 [(0, .ref 66), (1, .int x1), (2, .int x2), (3, .int x3), (4, .int x4)] [.int r3] G3 _
      refine E_if_eq (tgt := 100) dX12_isEach_31 (by decide) (fun c => ?_) (fun c => ?_)
      · have hB := hB.1 c
        exact EvI.tr hB hE3
      · have hB := hB.2 c
        refine E_iconst (v := 1) dX12_isEach_34 (by decide) ?_
        refine E_istore_n (lv' := [(0, .ref 66), (1, .int x1), (2, .int x2), (3, .int 1), (4, .int x4)]) dX12_isEach_35 rfl (by decide) rfl ?_
        refine E_iconst (v := 0) dX12_isEach_36 (by decide) ?_
        refine E_istore (lv' := [(0, .ref 66), (1, .int x1), (2, .int x2), (3, .int 1), (4, .int x4), (5, .int 0)]) dX12_isEach_37 (by decide) rfl ?_
        exact EvI.tr hB hE3

set_option maxRecDepth 20000 in
set_option maxHeartbeats 2000000 in
theorem kX12_isEach_39 {K : KT} {G : St} {Q : Int32 → St → Prop} {x1 : Int32} {x2 : Int32} {x3 : Int32} {x4 : Int32} {x5 : Int32} (hL : Lay G.2.2) 
    (hB : ((x4 ≤ x5 → EvI K mX12_isEach 2 100 [(0, .ref 66), (1, .int x1), (2, .int x2), (3, .int x3), (4, .int x4)] [] G Q) ∧ (¬ x4 ≤ x5 → vp_in x5 31 ∧ ((¬ (sI G 77 (Int32.toNatClampNeg x5)) = x1 → EvI K mX12_isEach 2 94 [(0, .ref 66), (1, .int x1), (2, .int x2), (3, .int x3), (4, .int x4), (5, .int x5)] [] G Q) ∧ ((sI G 77 (Int32.toNatClampNeg x5)) = x1 → EvI K mX12_isSeen 1 0 [(0, .ref 66), (1, .int x5)] [] G (fun r2 G2 => ((r2 = 0 → EvI K mX12_isEach 2 94 [(0, .ref 66), (1, .int x1), (2, .int x2), (3, .int x3), (4, .int x4), (5, .int x5)] [] G2 Q) ∧ (¬ r2 = 0 → vp_in ((4 * x5) + x2) 124 ∧ vp_in ((4 * x4) + x2) 124 ∧ ((¬ (sL G2 78 (Int32.toNatClampNeg ((4 * x5) + x2))) = (sL G2 78 (Int32.toNatClampNeg ((4 * x4) + x2))) → EvI K mX12_isEach 2 94 [(0, .ref 66), (1, .int x1), (2, .int x2), (3, .int x3), (4, .int x4), (5, .int x5)] [] G2 Q) ∧ ((sL G2 78 (Int32.toNatClampNeg ((4 * x5) + x2))) = (sL G2 78 (Int32.toNatClampNeg ((4 * x4) + x2))) → Q 0 G2)))))))))) :
    EvI K mX12_isEach 2 39 [(0, .ref 66), (1, .int x1), (2, .int x2), (3, .int x3), (4, .int x4), (5, .int x5)] [] G Q := by
  refine E_iload 5 dX12_isEach_39 rfl ?_
  refine E_iload 4 dX12_isEach_41 rfl ?_
  refine E_icmp_ge (tgt := 100) dX12_isEach_43 (by decide) (fun c => ?_) (fun c => ?_)
  · have hB := hB.1 c
    refine E_sub (lv' := [(0, .ref 66), (1, .int x1), (2, .int x2), (3, .int x3), (4, .int x4)]) [0, 1, 2, 3, 4] rfl ?_
    exact EvI.tr hB rfl
  · have hB := hB.2 c
    refine E_aload_n 0 dX12_isEach_46 rfl rfl rfl ?_
    refine E_gR (j := 77) fG_X12_68 rfl (lo_66 hL) (lr_66_18 hL) (by decide) dX12_isEach_47 ?_
    refine E_iload 5 dX12_isEach_50 rfl ?_
    obtain ⟨qq1, hB⟩ := hB
    refine E_aI (p := Int32.toNatClampNeg x5) (v := sI G 77 (Int32.toNatClampNeg x5)) (la_77 hL) qq1 rfl rfl dX12_isEach_52 ?_
    refine E_iload_n 1 dX12_isEach_53 rfl rfl ?_
    refine E_icmp_ne (tgt := 94) dX12_isEach_54 (by decide) (fun c => ?_) (fun c => ?_)
    · have hB := hB.1 c
      exact EvI.tr hB rfl
    · have hB := hB.2 c
      refine E_aload_n 0 dX12_isEach_57 rfl rfl rfl ?_
      refine E_iload 5 dX12_isEach_58 rfl ?_
      refine E_cV (ci := 11) (as := [.int x5]) (st := []) cm_X12_isSeen cV_X12_287 ⟨_, _, rfl⟩ (by decide) (lo_66 hL) rfl rfl (by decide) (Nat.le_of_ble_eq_true rfl) (Nat.le_of_ble_eq_true rfl) dX12_isEach_60 hB (fun r G2 hr => ?_)
      obtain ⟨r2, rfl, hE2, hB⟩ := hr
      have hL2 : Lay G2.2.2 := by rw [hE2]; exact hL
      have hE2 : G2.2.2 = G.2.2 := hE2
      show Ev K mX12_isEach 2 63 [(0, .ref 66), (1, .int x1), (2, .int x2), (3, .int x3), (4, .int x4), (5, .int x5)] [.int r2] G2 _
      refine E_if_eq (tgt := 94) dX12_isEach_63 (by decide) (fun c => ?_) (fun c => ?_)
      · have hB := hB.1 c
        exact EvI.tr hB hE2
      · have hB := hB.2 c
        refine E_aload_n 0 dX12_isEach_66 rfl rfl rfl ?_
        refine E_gR (j := 78) fG_X12_71 rfl (lo_66 hL2) (lr_66_19 hL2) (by decide) dX12_isEach_67 ?_
        refine E_iconst (v := 4) dX12_isEach_70 (by decide) ?_
        refine E_iload 5 dX12_isEach_71 rfl ?_
        refine E_imul dX12_isEach_73 ?_
        refine E_iload_n 2 dX12_isEach_74 rfl rfl ?_
        refine E_iadd dX12_isEach_75 ?_
        obtain ⟨qq3, hB⟩ := hB
        refine E_aL (p := Int32.toNatClampNeg ((4 * x5) + x2)) (v := sL G2 78 (Int32.toNatClampNeg ((4 * x5) + x2))) (la_78 hL2) qq3 rfl rfl dX12_isEach_76 ?_
        refine E_aload_n 0 dX12_isEach_77 rfl rfl rfl ?_
        refine E_gR (j := 78) fG_X12_71 rfl (lo_66 hL2) (lr_66_19 hL2) (by decide) dX12_isEach_78 ?_
        refine E_iconst (v := 4) dX12_isEach_81 (by decide) ?_
        refine E_iload 4 dX12_isEach_82 rfl ?_
        refine E_imul dX12_isEach_84 ?_
        refine E_iload_n 2 dX12_isEach_85 rfl rfl ?_
        refine E_iadd dX12_isEach_86 ?_
        obtain ⟨qq4, hB⟩ := hB
        refine E_aL (p := Int32.toNatClampNeg ((4 * x4) + x2)) (v := sL G2 78 (Int32.toNatClampNeg ((4 * x4) + x2))) (la_78 hL2) qq4 rfl rfl dX12_isEach_87 ?_
        refine E_lcmp dX12_isEach_88 ?_
        refine E_if_ne (tgt := 94) dX12_isEach_89 (by decide) (fun c => ?_) (fun c => ?_)
        · have hB := hB.1 ((fun q => c ((lgc_eq (sL G2 78 (Int32.toNatClampNeg ((4 * x5) + x2))) (sL G2 78 (Int32.toNatClampNeg ((4 * x4) + x2)))).mpr q)))
          exact EvI.tr hB hE2
        · have hB := hB.2 ((lgc_eq (sL G2 78 (Int32.toNatClampNeg ((4 * x5) + x2))) (sL G2 78 (Int32.toNatClampNeg ((4 * x4) + x2)))).mp c)
          refine E_iconst (v := 0) dX12_isEach_92 (by decide) ?_
          exact E_zret rfl (Or.inl rfl) dX12_isEach_93 ⟨_, rfl, hE2, hB⟩

set_option maxRecDepth 20000 in
set_option maxHeartbeats 2000000 in
theorem kX12_isEach_94 {K : KT} {G : St} {Q : Int32 → St → Prop} {x1 : Int32} {x2 : Int32} {x3 : Int32} {x4 : Int32} {x5 : Int32} (hL : Lay G.2.2) 
    (hB : EvI K mX12_isEach 2 39 [(0, .ref 66), (1, .int x1), (2, .int x2), (3, .int x3), (4, .int x4), (5, .int (x5 + 1))] [] G Q) :
    EvI K mX12_isEach 2 94 [(0, .ref 66), (1, .int x1), (2, .int x2), (3, .int x3), (4, .int x4), (5, .int x5)] [] G Q := by
  refine E_iinc (v := x5 + 1) (lv' := [(0, .ref 66), (1, .int x1), (2, .int x2), (3, .int x3), (4, .int x4), (5, .int (x5 + 1))]) 5 dX12_isEach_94 rfl rfl (by decide) rfl ?_
  refine E_goto (tgt := 39) dX12_isEach_97 (by decide) ?_
  exact EvI.tr hB rfl

set_option maxRecDepth 20000 in
set_option maxHeartbeats 2000000 in
theorem kX12_isEach_100 {K : KT} {G : St} {Q : Int32 → St → Prop} {x1 : Int32} {x2 : Int32} {x3 : Int32} {x4 : Int32} (hL : Lay G.2.2) 
    (hB : EvI K mX12_isEach 2 5 [(0, .ref 66), (1, .int x1), (2, .int x2), (3, .int x3), (4, .int (x4 + 1))] [] G Q) :
    EvI K mX12_isEach 2 100 [(0, .ref 66), (1, .int x1), (2, .int x2), (3, .int x3), (4, .int x4)] [] G Q := by
  refine E_iinc (v := x4 + 1) (lv' := [(0, .ref 66), (1, .int x1), (2, .int x2), (3, .int x3), (4, .int (x4 + 1))]) 4 dX12_isEach_100 rfl rfl (by decide) rfl ?_
  refine E_goto (tgt := 5) dX12_isEach_103 (by decide) ?_
  exact EvI.tr hB rfl

set_option maxRecDepth 20000 in
set_option maxHeartbeats 2000000 in
theorem kX12_areAmong_0 {K : KT} {G : St} {Q : Int32 → St → Prop} {x1 : Int32} {x2 : Int32} {x3 : Int32} {x4 : Int32} (hL : Lay G.2.2) 
    (hB : EvI K mX12_areAmong 2 6 [(0, .ref 66), (1, .int x1), (2, .int x2), (3, .int x3), (4, .int x4), (5, .int 0), (6, .int 0)] [] G Q) :
    EvI K mX12_areAmong 2 0 [(0, .ref 66), (1, .int x1), (2, .int x2), (3, .int x3), (4, .int x4)] [] G Q := by
  refine E_iconst (v := 0) dX12_areAmong_0 (by decide) ?_
  refine E_istore (lv' := [(0, .ref 66), (1, .int x1), (2, .int x2), (3, .int x3), (4, .int x4), (5, .int 0)]) dX12_areAmong_1 (by decide) rfl ?_
  refine E_iconst (v := 0) dX12_areAmong_3 (by decide) ?_
  refine E_istore (lv' := [(0, .ref 66), (1, .int x1), (2, .int x2), (3, .int x3), (4, .int x4), (5, .int 0), (6, .int 0)]) dX12_areAmong_4 (by decide) rfl ?_
  exact EvI.tr hB rfl

set_option maxRecDepth 20000 in
set_option maxHeartbeats 2000000 in
theorem kX12_areAmong_6 {K : KT} {G : St} {Q : Int32 → St → Prop} {x1 : Int32} {x2 : Int32} {x3 : Int32} {x4 : Int32} {x5 : Int32} {x6 : Int32} (hL : Lay G.2.2) 
    (hB : (((sI G 66 16) ≤ x6 → (x5 = 0 ∨ x5 = 1) ∧ Q x5 G) ∧ (¬ (sI G 66 16) ≤ x6 → vp_in x6 31 ∧ ((¬ (sI G 77 (Int32.toNatClampNeg x6)) = x1 → EvI K mX12_areAmong 2 125 [(0, .ref 66), (1, .int x1), (2, .int x2), (3, .int x3), (4, .int x4), (5, .int x5), (6, .int x6)] [] G Q) ∧ ((sI G 77 (Int32.toNatClampNeg x6)) = x1 → EvI K mX12_isSeen 1 0 [(0, .ref 66), (1, .int x6)] [] G (fun r3 G3 => ((r3 = 0 → EvI K mX12_areAmong 2 125 [(0, .ref 66), (1, .int x1), (2, .int x2), (3, .int x3), (4, .int x4), (5, .int x5), (6, .int x6)] [] G3 Q) ∧ (¬ r3 = 0 → EvI K mX12_areAmong 2 44 [(0, .ref 66), (1, .int x1), (2, .int x2), (3, .int x3), (4, .int x4), (5, .int 1), (6, .int x6), (7, .int 0), (8, .int 0)] [] G3 Q)))))))) :
    EvI K mX12_areAmong 2 6 [(0, .ref 66), (1, .int x1), (2, .int x2), (3, .int x3), (4, .int x4), (5, .int x5), (6, .int x6)] [] G Q := by
  refine E_iload 6 dX12_areAmong_6 rfl ?_
  refine E_aload_n 0 dX12_areAmong_8 rfl rfl rfl ?_
  refine E_gI (v := sI G 66 16) fG_X12_223 rfl (lo_66 hL) rfl dX12_areAmong_9 ?_
  refine E_icmp_ge (tgt := 131) dX12_areAmong_12 (by decide) (fun c => ?_) (fun c => ?_)
  · have hB := hB.1 c
    refine E_iload 5 dX12_areAmong_131 rfl ?_
    obtain ⟨qq1, hB⟩ := hB
    exact E_zret rfl qq1 dX12_areAmong_133 ⟨_, rfl, rfl, hB⟩
  · have hB := hB.2 c
    refine E_aload_n 0 dX12_areAmong_15 rfl rfl rfl ?_
    refine E_gR (j := 77) fG_X12_68 rfl (lo_66 hL) (lr_66_18 hL) (by decide) dX12_areAmong_16 ?_
    refine E_iload 6 dX12_areAmong_19 rfl ?_
    obtain ⟨qq2, hB⟩ := hB
    refine E_aI (p := Int32.toNatClampNeg x6) (v := sI G 77 (Int32.toNatClampNeg x6)) (la_77 hL) qq2 rfl rfl dX12_areAmong_21 ?_
    refine E_iload_n 1 dX12_areAmong_22 rfl rfl ?_
    refine E_icmp_ne (tgt := 125) dX12_areAmong_23 (by decide) (fun c => ?_) (fun c => ?_)
    · have hB := hB.1 c
      exact EvI.tr hB rfl
    · have hB := hB.2 c
      refine E_aload_n 0 dX12_areAmong_26 rfl rfl rfl ?_
      refine E_iload 6 dX12_areAmong_27 rfl ?_
      refine E_cV (ci := 11) (as := [.int x6]) (st := []) cm_X12_isSeen cV_X12_287 ⟨_, _, rfl⟩ (by decide) (lo_66 hL) rfl rfl (by decide) (Nat.le_of_ble_eq_true rfl) (Nat.le_of_ble_eq_true rfl) dX12_areAmong_29 hB (fun r G3 hr => ?_)
      obtain ⟨r3, rfl, hE3, hB⟩ := hr
      have hL3 : Lay G3.2.2 := by rw [hE3]; exact hL
      have hE3 : G3.2.2 = G.2.2 := hE3
      show Ev K mX12_areAmong 2 32 [(0, .ref 66), (1, .int x1), (2, .int x2), (3, .int x3), (4, .int x4), (5, .int x5), (6, .int x6)] [.int r3] G3 _
      refine E_if_eq (tgt := 125) dX12_areAmong_32 (by decide) (fun c => ?_) (fun c => ?_)
      · have hB := hB.1 c
        exact EvI.tr hB hE3
      · have hB := hB.2 c
        refine E_iconst (v := 1) dX12_areAmong_35 (by decide) ?_
        refine E_istore (lv' := [(0, .ref 66), (1, .int x1), (2, .int x2), (3, .int x3), (4, .int x4), (5, .int 1), (6, .int x6)]) dX12_areAmong_36 (by decide) rfl ?_
        refine E_iconst (v := 0) dX12_areAmong_38 (by decide) ?_
        refine E_istore (lv' := [(0, .ref 66), (1, .int x1), (2, .int x2), (3, .int x3), (4, .int x4), (5, .int 1), (6, .int x6), (7, .int 0)]) dX12_areAmong_39 (by decide) rfl ?_
        refine E_iconst (v := 0) dX12_areAmong_41 (by decide) ?_
        refine E_istore (lv' := [(0, .ref 66), (1, .int x1), (2, .int x2), (3, .int x3), (4, .int x4), (5, .int 1), (6, .int x6), (7, .int 0), (8, .int 0)]) dX12_areAmong_42 (by decide) rfl ?_
        exact EvI.tr hB hE3

set_option maxRecDepth 20000 in
set_option maxHeartbeats 2000000 in
theorem kX12_areAmong_44 {K : KT} {G : St} {Q : Int32 → St → Prop} {x1 : Int32} {x2 : Int32} {x3 : Int32} {x4 : Int32} {x5 : Int32} {x6 : Int32} {x7 : Int32} {x8 : Int32} (hL : Lay G.2.2) 
    (hB : (((sI G 66 16) ≤ x8 → ((¬ x7 = 0 → EvI K mX12_areAmong 2 125 [(0, .ref 66), (1, .int x1), (2, .int x2), (3, .int x3), (4, .int x4), (5, .int x5), (6, .int x6)] [] G Q) ∧ (x7 = 0 → Q 0 G))) ∧ (¬ (sI G 66 16) ≤ x8 → ((¬ x7 = 0 → EvI K mX12_areAmong 2 110 [(0, .ref 66), (1, .int x1), (2, .int x2), (3, .int x3), (4, .int x4), (5, .int x5), (6, .int x6), (8, .int x8)] [.int 1] G Q) ∧ (x7 = 0 → vp_in x8 31 ∧ ((¬ (sI G 77 (Int32.toNatClampNeg x8)) = x3 → EvI K mX12_areAmong 2 109 [(0, .ref 66), (1, .int x1), (2, .int x2), (3, .int x3), (4, .int x4), (5, .int x5), (6, .int x6), (8, .int x8)] [] G Q) ∧ ((sI G 77 (Int32.toNatClampNeg x8)) = x3 → EvI K mX12_isSeen 1 0 [(0, .ref 66), (1, .int x8)] [] G (fun r2 G2 => ((r2 = 0 → EvI K mX12_areAmong 2 109 [(0, .ref 66), (1, .int x1), (2, .int x2), (3, .int x3), (4, .int x4), (5, .int x5), (6, .int x6), (8, .int x8)] [] G2 Q) ∧ (¬ r2 = 0 → vp_in ((4 * x8) + x4) 124 ∧ vp_in ((4 * x6) + x2) 124 ∧ ((¬ (sL G2 78 (Int32.toNatClampNeg ((4 * x8) + x4))) = (sL G2 78 (Int32.toNatClampNeg ((4 * x6) + x2))) → EvI K mX12_areAmong 2 109 [(0, .ref 66), (1, .int x1), (2, .int x2), (3, .int x3), (4, .int x4), (5, .int x5), (6, .int x6), (8, .int x8)] [] G2 Q) ∧ ((sL G2 78 (Int32.toNatClampNeg ((4 * x8) + x4))) = (sL G2 78 (Int32.toNatClampNeg ((4 * x6) + x2))) → EvI K mX12_areAmong 2 110 [(0, .ref 66), (1, .int x1), (2, .int x2), (3, .int x3), (4, .int x4), (5, .int x5), (6, .int x6), (8, .int x8)] [.int 1] G2 Q)))))))))))) :
    EvI K mX12_areAmong 2 44 [(0, .ref 66), (1, .int x1), (2, .int x2), (3, .int x3), (4, .int x4), (5, .int x5), (6, .int x6), (7, .int x7), (8, .int x8)] [] G Q := by
  refine E_iload 8 dX12_areAmong_44 rfl ?_
  refine E_aload_n 0 dX12_areAmong_46 rfl rfl rfl ?_
  refine E_gI (v := sI G 66 16) fG_X12_223 rfl (lo_66 hL) rfl dX12_areAmong_47 ?_
  refine E_icmp_ge (tgt := 118) dX12_areAmong_50 (by decide) (fun c => ?_) (fun c => ?_)
  · have hB := hB.1 c
    refine E_iload 7 dX12_areAmong_118 rfl ?_
    refine E_if_ne (tgt := 125) dX12_areAmong_120 (by decide) (fun c => ?_) (fun c => ?_)
    · have hB := hB.1 c
      refine E_sub (lv' := [(0, .ref 66), (1, .int x1), (2, .int x2), (3, .int x3), (4, .int x4), (5, .int x5), (6, .int x6)]) [0, 1, 2, 3, 4, 5, 6] rfl ?_
      exact EvI.tr hB rfl
    · have hB := hB.2 c
      refine E_iconst (v := 0) dX12_areAmong_123 (by decide) ?_
      exact E_zret rfl (Or.inl rfl) dX12_areAmong_124 ⟨_, rfl, rfl, hB⟩
  · have hB := hB.2 c
    refine E_iload 7 dX12_areAmong_53 rfl ?_
    refine E_if_ne (tgt := 105) dX12_areAmong_55 (by decide) (fun c => ?_) (fun c => ?_)
    · have hB := hB.1 c
      refine E_iconst (v := 1) dX12_areAmong_105 (by decide) ?_
      refine E_goto (tgt := 110) dX12_areAmong_106 (by decide) ?_
      refine E_sub (lv' := [(0, .ref 66), (1, .int x1), (2, .int x2), (3, .int x3), (4, .int x4), (5, .int x5), (6, .int x6), (8, .int x8)]) [0, 1, 2, 3, 4, 5, 6, 8] rfl ?_
      exact EvI.tr hB rfl
    · have hB := hB.2 c
      refine E_aload_n 0 dX12_areAmong_58 rfl rfl rfl ?_
      refine E_gR (j := 77) fG_X12_68 rfl (lo_66 hL) (lr_66_18 hL) (by decide) dX12_areAmong_59 ?_
      refine E_iload 8 dX12_areAmong_62 rfl ?_
      obtain ⟨qq1, hB⟩ := hB
      refine E_aI (p := Int32.toNatClampNeg x8) (v := sI G 77 (Int32.toNatClampNeg x8)) (la_77 hL) qq1 rfl rfl dX12_areAmong_64 ?_
      refine E_iload_n 3 dX12_areAmong_65 rfl rfl ?_
      refine E_icmp_ne (tgt := 109) dX12_areAmong_66 (by decide) (fun c => ?_) (fun c => ?_)
      · have hB := hB.1 c
        refine E_sub (lv' := [(0, .ref 66), (1, .int x1), (2, .int x2), (3, .int x3), (4, .int x4), (5, .int x5), (6, .int x6), (8, .int x8)]) [0, 1, 2, 3, 4, 5, 6, 8] rfl ?_
        exact EvI.tr hB rfl
      · have hB := hB.2 c
        refine E_aload_n 0 dX12_areAmong_69 rfl rfl rfl ?_
        refine E_iload 8 dX12_areAmong_70 rfl ?_
        refine E_cV (ci := 11) (as := [.int x8]) (st := []) cm_X12_isSeen cV_X12_287 ⟨_, _, rfl⟩ (by decide) (lo_66 hL) rfl rfl (by decide) (Nat.le_of_ble_eq_true rfl) (Nat.le_of_ble_eq_true rfl) dX12_areAmong_72 hB (fun r G2 hr => ?_)
        obtain ⟨r2, rfl, hE2, hB⟩ := hr
        have hL2 : Lay G2.2.2 := by rw [hE2]; exact hL
        have hE2 : G2.2.2 = G.2.2 := hE2
        show Ev K mX12_areAmong 2 75 [(0, .ref 66), (1, .int x1), (2, .int x2), (3, .int x3), (4, .int x4), (5, .int x5), (6, .int x6), (7, .int x7), (8, .int x8)] [.int r2] G2 _
        refine E_if_eq (tgt := 109) dX12_areAmong_75 (by decide) (fun c => ?_) (fun c => ?_)
        · have hB := hB.1 c
          refine E_sub (lv' := [(0, .ref 66), (1, .int x1), (2, .int x2), (3, .int x3), (4, .int x4), (5, .int x5), (6, .int x6), (8, .int x8)]) [0, 1, 2, 3, 4, 5, 6, 8] rfl ?_
          exact EvI.tr hB hE2
        · have hB := hB.2 c
          refine E_aload_n 0 dX12_areAmong_78 rfl rfl rfl ?_
          refine E_gR (j := 78) fG_X12_71 rfl (lo_66 hL2) (lr_66_19 hL2) (by decide) dX12_areAmong_79 ?_
          refine E_iconst (v := 4) dX12_areAmong_82 (by decide) ?_
          refine E_iload 8 dX12_areAmong_83 rfl ?_
          refine E_imul dX12_areAmong_85 ?_
          refine E_iload 4 dX12_areAmong_86 rfl ?_
          refine E_iadd dX12_areAmong_88 ?_
          obtain ⟨qq3, hB⟩ := hB
          refine E_aL (p := Int32.toNatClampNeg ((4 * x8) + x4)) (v := sL G2 78 (Int32.toNatClampNeg ((4 * x8) + x4))) (la_78 hL2) qq3 rfl rfl dX12_areAmong_89 ?_
          refine E_aload_n 0 dX12_areAmong_90 rfl rfl rfl ?_
          refine E_gR (j := 78) fG_X12_71 rfl (lo_66 hL2) (lr_66_19 hL2) (by decide) dX12_areAmong_91 ?_
          refine E_iconst (v := 4) dX12_areAmong_94 (by decide) ?_
          refine E_iload 6 dX12_areAmong_95 rfl ?_
          refine E_imul dX12_areAmong_97 ?_
          refine E_iload_n 2 dX12_areAmong_98 rfl rfl ?_
          refine E_iadd dX12_areAmong_99 ?_
          obtain ⟨qq4, hB⟩ := hB
          refine E_aL (p := Int32.toNatClampNeg ((4 * x6) + x2)) (v := sL G2 78 (Int32.toNatClampNeg ((4 * x6) + x2))) (la_78 hL2) qq4 rfl rfl dX12_areAmong_100 ?_
          refine E_lcmp dX12_areAmong_101 ?_
          refine E_if_ne (tgt := 109) dX12_areAmong_102 (by decide) (fun c => ?_) (fun c => ?_)
          · have hB := hB.1 ((fun q => c ((lgc_eq (sL G2 78 (Int32.toNatClampNeg ((4 * x8) + x4))) (sL G2 78 (Int32.toNatClampNeg ((4 * x6) + x2)))).mpr q)))
            refine E_sub (lv' := [(0, .ref 66), (1, .int x1), (2, .int x2), (3, .int x3), (4, .int x4), (5, .int x5), (6, .int x6), (8, .int x8)]) [0, 1, 2, 3, 4, 5, 6, 8] rfl ?_
            exact EvI.tr hB hE2
          · have hB := hB.2 ((lgc_eq (sL G2 78 (Int32.toNatClampNeg ((4 * x8) + x4))) (sL G2 78 (Int32.toNatClampNeg ((4 * x6) + x2)))).mp c)
            refine E_iconst (v := 1) dX12_areAmong_105 (by decide) ?_
            refine E_goto (tgt := 110) dX12_areAmong_106 (by decide) ?_
            refine E_sub (lv' := [(0, .ref 66), (1, .int x1), (2, .int x2), (3, .int x3), (4, .int x4), (5, .int x5), (6, .int x6), (8, .int x8)]) [0, 1, 2, 3, 4, 5, 6, 8] rfl ?_
            exact EvI.tr hB hE2

set_option maxRecDepth 20000 in
set_option maxHeartbeats 2000000 in
theorem kX12_areAmong_109 {K : KT} {G : St} {Q : Int32 → St → Prop} {x1 : Int32} {x2 : Int32} {x3 : Int32} {x4 : Int32} {x5 : Int32} {x6 : Int32} {x8 : Int32} (hL : Lay G.2.2) 
    (hB : EvI K mX12_areAmong 2 110 [(0, .ref 66), (1, .int x1), (2, .int x2), (3, .int x3), (4, .int x4), (5, .int x5), (6, .int x6), (8, .int x8)] [.int 0] G Q) :
    EvI K mX12_areAmong 2 109 [(0, .ref 66), (1, .int x1), (2, .int x2), (3, .int x3), (4, .int x4), (5, .int x5), (6, .int x6), (8, .int x8)] [] G Q := by
  refine E_iconst (v := 0) dX12_areAmong_109 (by decide) ?_
  exact EvI.tr hB rfl

set_option maxRecDepth 20000 in
set_option maxHeartbeats 2000000 in
theorem kX12_areAmong_110 {K : KT} {G : St} {Q : Int32 → St → Prop} {x1 : Int32} {x2 : Int32} {x3 : Int32} {x4 : Int32} {x5 : Int32} {x6 : Int32} {x8 : Int32} {xs0 : Int32} (hL : Lay G.2.2) 
    (hB : EvI K mX12_areAmong 2 44 [(0, .ref 66), (1, .int x1), (2, .int x2), (3, .int x3), (4, .int x4), (5, .int x5), (6, .int x6), (7, .int xs0), (8, .int (x8 + 1))] [] G Q) :
    EvI K mX12_areAmong 2 110 [(0, .ref 66), (1, .int x1), (2, .int x2), (3, .int x3), (4, .int x4), (5, .int x5), (6, .int x6), (8, .int x8)] [.int xs0] G Q := by
  refine E_istore (lv' := [(0, .ref 66), (1, .int x1), (2, .int x2), (3, .int x3), (4, .int x4), (5, .int x5), (6, .int x6), (7, .int xs0), (8, .int x8)]) dX12_areAmong_110 (by decide) rfl ?_
  refine E_iinc (v := x8 + 1) (lv' := [(0, .ref 66), (1, .int x1), (2, .int x2), (3, .int x3), (4, .int x4), (5, .int x5), (6, .int x6), (7, .int xs0), (8, .int (x8 + 1))]) 8 dX12_areAmong_112 rfl rfl (by decide) rfl ?_
  refine E_goto (tgt := 44) dX12_areAmong_115 (by decide) ?_
  exact EvI.tr hB rfl

set_option maxRecDepth 20000 in
set_option maxHeartbeats 2000000 in
theorem kX12_areAmong_125 {K : KT} {G : St} {Q : Int32 → St → Prop} {x1 : Int32} {x2 : Int32} {x3 : Int32} {x4 : Int32} {x5 : Int32} {x6 : Int32} (hL : Lay G.2.2) 
    (hB : EvI K mX12_areAmong 2 6 [(0, .ref 66), (1, .int x1), (2, .int x2), (3, .int x3), (4, .int x4), (5, .int x5), (6, .int (x6 + 1))] [] G Q) :
    EvI K mX12_areAmong 2 125 [(0, .ref 66), (1, .int x1), (2, .int x2), (3, .int x3), (4, .int x4), (5, .int x5), (6, .int x6)] [] G Q := by
  refine E_iinc (v := x6 + 1) (lv' := [(0, .ref 66), (1, .int x1), (2, .int x2), (3, .int x3), (4, .int x4), (5, .int x5), (6, .int (x6 + 1))]) 6 dX12_areAmong_125 rfl rfl (by decide) rfl ?_
  refine E_goto (tgt := 6) dX12_areAmong_128 (by decide) ?_
  exact EvI.tr hB rfl

set_option maxRecDepth 20000 in
set_option maxHeartbeats 2000000 in
theorem kX12_findOffers_0 {K : KT} {G : St} {Q : St → Prop}  (hL : Lay G.2.2) 
    (hB : EvV K mX12_findOffers 3 7 [(0, .ref 66), (1, .int 0)] [] (uI G 66 31 0) Q) :
    EvV K mX12_findOffers 3 0 [(0, .ref 66)] [] G Q := by
  refine E_aload_n 0 dX12_findOffers_0 rfl rfl rfl ?_
  refine E_iconst (v := 0) dX12_findOffers_1 (by decide) ?_
  refine E_pI fP_X12_320 rfl (lo_66 hL) dX12_findOffers_2 ?_
  refine E_iconst (v := 0) dX12_findOffers_5 (by decide) ?_
  refine E_istore_n (lv' := [(0, .ref 66), (1, .int 0)]) dX12_findOffers_6 rfl (by decide) rfl ?_
  exact EvV.tr hB rfl

set_option maxRecDepth 20000 in
set_option maxHeartbeats 2000000 in
theorem kX12_findOffers_7 {K : KT} {G : St} {Q : St → Prop} {x1 : Int32} (hL : Lay G.2.2) 
    (hB : ((20 ≤ x1 → Q G) ∧ (¬ 20 ≤ x1 → EvV K mX12_findOffers 3 15 [(0, .ref 66), (1, .int x1), (2, .int 0)] [] G Q))) :
    EvV K mX12_findOffers 3 7 [(0, .ref 66), (1, .int x1)] [] G Q := by
  refine E_iload_n 1 dX12_findOffers_7 rfl rfl ?_
  refine E_bipush (v := 20) dX12_findOffers_8 (by decide) ?_
  refine E_icmp_ge (tgt := 137) dX12_findOffers_10 (by decide) (fun c => ?_) (fun c => ?_)
  · have hB := hB.1 c
    exact E_vret rfl dX12_findOffers_137 ⟨rfl, rfl, hB⟩
  · have hB := hB.2 c
    refine E_iconst (v := 0) dX12_findOffers_13 (by decide) ?_
    refine E_istore_n (lv' := [(0, .ref 66), (1, .int x1), (2, .int 0)]) dX12_findOffers_14 rfl (by decide) rfl ?_
    exact EvV.tr hB rfl

set_option maxRecDepth 20000 in
set_option maxHeartbeats 2000000 in
theorem kX12_findOffers_15 {K : KT} {G : St} {Q : St → Prop} {x1 : Int32} {x2 : Int32} (hL : Lay G.2.2) 
    (hB : ((20 ≤ x2 → EvV K mX12_findOffers 3 7 [(0, .ref 66), (1, .int (x1 + 1))] [] G Q) ∧ (¬ 20 ≤ x2 → EvI K mX12_isColumn 0 0 [(0, .ref 66), (1, .int (x1 / 4)), (2, .int (x1 - x1 / 4 * 4)), (3, .int 5)] [] G (fun r1 G1 => ((r1 = 0 → EvV K mX12_findOffers 3 62 [(0, .ref 66), (1, .int x1), (2, .int x2)] [] G1 Q) ∧ (¬ r1 = 0 → EvI K mX12_isColumn 0 0 [(0, .ref 66), (1, .int (x2 / 4)), (2, .int (x2 - x2 / 4 * 4)), (3, .int 5)] [] G1 (fun r2 G2 => ((r2 = 0 → EvV K mX12_findOffers 3 62 [(0, .ref 66), (1, .int x1), (2, .int x2)] [] G2 Q) ∧ (¬ r2 = 0 → (((x1 / 4) = (x2 / 4) → EvV K mX12_findOffers 3 62 [(0, .ref 66), (1, .int x1), (2, .int x2)] [] G2 Q) ∧ (¬ (x1 / 4) = (x2 / 4) → EvV K mX12_findOffers 3 63 [(0, .ref 66), (1, .int x1), (2, .int x2)] [.int 1] G2 Q))))))))))) :
    EvV K mX12_findOffers 3 15 [(0, .ref 66), (1, .int x1), (2, .int x2)] [] G Q := by
  refine E_iload_n 2 dX12_findOffers_15 rfl rfl ?_
  refine E_bipush (v := 20) dX12_findOffers_16 (by decide) ?_
  refine E_icmp_ge (tgt := 131) dX12_findOffers_18 (by decide) (fun c => ?_) (fun c => ?_)
  · have hB := hB.1 c
    refine E_iinc (v := x1 + 1) (lv' := [(0, .ref 66), (1, .int (x1 + 1)), (2, .int x2)]) 1 dX12_findOffers_131 rfl rfl (by decide) rfl ?_
    refine E_goto (tgt := 7) dX12_findOffers_134 (by decide) ?_
    refine E_sub (lv' := [(0, .ref 66), (1, .int (x1 + 1))]) [0, 1] rfl ?_
    exact EvV.tr hB rfl
  · have hB := hB.2 c
    refine E_aload_n 0 dX12_findOffers_21 rfl rfl rfl ?_
    refine E_iload_n 1 dX12_findOffers_22 rfl rfl ?_
    refine E_iconst (v := 4) dX12_findOffers_23 (by decide) ?_
    refine E_idiv dX12_findOffers_24 (by decide) ?_
    refine E_iload_n 1 dX12_findOffers_25 rfl rfl ?_
    refine E_iconst (v := 4) dX12_findOffers_26 (by decide) ?_
    refine E_irem dX12_findOffers_27 (by decide) ?_
    refine E_iconst (v := 5) dX12_findOffers_28 (by decide) ?_
    refine E_cV (ci := 11) (as := [.int (x1 / 4), .int (x1 - x1 / 4 * 4), .int 5]) (st := []) cm_X12_isColumn cV_X12_323 ⟨_, _, rfl⟩ (by decide) (lo_66 hL) rfl rfl (by decide) (Nat.le_of_ble_eq_true rfl) (Nat.le_of_ble_eq_true rfl) dX12_findOffers_29 hB (fun r G1 hr => ?_)
    obtain ⟨r1, rfl, hE1, hB⟩ := hr
    have hL1 : Lay G1.2.2 := by rw [hE1]; exact hL
    have hE1 : G1.2.2 = G.2.2 := hE1
    show Ev K mX12_findOffers 3 32 [(0, .ref 66), (1, .int x1), (2, .int x2)] [.int r1] G1 _
    refine E_if_eq (tgt := 62) dX12_findOffers_32 (by decide) (fun c => ?_) (fun c => ?_)
    · have hB := hB.1 c
      exact EvV.tr hB hE1
    · have hB := hB.2 c
      refine E_aload_n 0 dX12_findOffers_35 rfl rfl rfl ?_
      refine E_iload_n 2 dX12_findOffers_36 rfl rfl ?_
      refine E_iconst (v := 4) dX12_findOffers_37 (by decide) ?_
      refine E_idiv dX12_findOffers_38 (by decide) ?_
      refine E_iload_n 2 dX12_findOffers_39 rfl rfl ?_
      refine E_iconst (v := 4) dX12_findOffers_40 (by decide) ?_
      refine E_irem dX12_findOffers_41 (by decide) ?_
      refine E_iconst (v := 5) dX12_findOffers_42 (by decide) ?_
      refine E_cV (ci := 11) (as := [.int (x2 / 4), .int (x2 - x2 / 4 * 4), .int 5]) (st := []) cm_X12_isColumn cV_X12_323 ⟨_, _, rfl⟩ (by decide) (lo_66 hL1) rfl rfl (by decide) (Nat.le_of_ble_eq_true rfl) (Nat.le_of_ble_eq_true rfl) dX12_findOffers_43 hB (fun r G2 hr => ?_)
      obtain ⟨r2, rfl, hE2, hB⟩ := hr
      have hL2 : Lay G2.2.2 := by rw [hE2]; exact hL1
      have hE2 : G2.2.2 = G.2.2 := hE2.trans hE1
      show Ev K mX12_findOffers 3 46 [(0, .ref 66), (1, .int x1), (2, .int x2)] [.int r2] G2 _
      refine E_if_eq (tgt := 62) dX12_findOffers_46 (by decide) (fun c => ?_) (fun c => ?_)
      · have hB := hB.1 c
        exact EvV.tr hB hE2
      · have hB := hB.2 c
        refine E_iload_n 1 dX12_findOffers_49 rfl rfl ?_
        refine E_iconst (v := 4) dX12_findOffers_50 (by decide) ?_
        refine E_idiv dX12_findOffers_51 (by decide) ?_
        refine E_iload_n 2 dX12_findOffers_52 rfl rfl ?_
        refine E_iconst (v := 4) dX12_findOffers_53 (by decide) ?_
        refine E_idiv dX12_findOffers_54 (by decide) ?_
        refine E_icmp_eq (tgt := 62) dX12_findOffers_55 (by decide) (fun c => ?_) (fun c => ?_)
        · have hB := hB.1 c
          exact EvV.tr hB hE2
        · have hB := hB.2 c
          refine E_iconst (v := 1) dX12_findOffers_58 (by decide) ?_
          refine E_goto (tgt := 63) dX12_findOffers_59 (by decide) ?_
          exact EvV.tr hB hE2

set_option maxRecDepth 20000 in
set_option maxHeartbeats 2000000 in
theorem kX12_findOffers_62 {K : KT} {G : St} {Q : St → Prop} {x1 : Int32} {x2 : Int32} (hL : Lay G.2.2) 
    (hB : EvV K mX12_findOffers 3 63 [(0, .ref 66), (1, .int x1), (2, .int x2)] [.int 0] G Q) :
    EvV K mX12_findOffers 3 62 [(0, .ref 66), (1, .int x1), (2, .int x2)] [] G Q := by
  refine E_iconst (v := 0) dX12_findOffers_62 (by decide) ?_
  exact EvV.tr hB rfl

set_option maxRecDepth 20000 in
set_option maxHeartbeats 2000000 in
theorem kX12_findOffers_63 {K : KT} {G : St} {Q : St → Prop} {x1 : Int32} {x2 : Int32} {xs0 : Int32} (hL : Lay G.2.2) 
    (hB : ((xs0 = 0 → EvV K mX12_findOffers 3 125 [(0, .ref 66), (1, .int x1), (2, .int x2)] [] G Q) ∧ (¬ xs0 = 0 → EvI K mX12_isEach 2 0 [(0, .ref 66), (1, .int (x2 / 4)), (2, .int (x2 - x2 / 4 * 4))] [] G (fun r1 G1 => ((r1 = 0 → EvV K mX12_findOffers 3 125 [(0, .ref 66), (1, .int x1), (2, .int x2)] [] G1 Q) ∧ (¬ r1 = 0 → EvI K mX12_areAmong 2 0 [(0, .ref 66), (1, .int (x1 / 4)), (2, .int (x1 - x1 / 4 * 4)), (3, .int (x2 / 4)), (4, .int (x2 - x2 / 4 * 4))] [] G1 (fun r2 G2 => ((r2 = 0 → EvV K mX12_findOffers 3 125 [(0, .ref 66), (1, .int x1), (2, .int x2)] [] G2 Q) ∧ (¬ r2 = 0 → vp_in (sI G2 66 31) 380 ∧ EvV K mX12_findOffers 3 125 [(0, .ref 66), (1, .int x1), (2, .int x2)] [] (uI (uI G2 85 (Int32.toNatClampNeg (sI G2 66 31)) ((20 * x1) + x2)) 66 31 ((sI G2 66 31) + 1)) Q))))))))) :
    EvV K mX12_findOffers 3 63 [(0, .ref 66), (1, .int x1), (2, .int x2)] [.int xs0] G Q := by
  refine E_istore_n (lv' := [(0, .ref 66), (1, .int x1), (2, .int x2), (3, .int xs0)]) dX12_findOffers_63 rfl (by decide) rfl ?_
  refine E_iload_n 3 dX12_findOffers_64 rfl rfl ?_
  refine E_if_eq (tgt := 125) dX12_findOffers_65 (by decide) (fun c => ?_) (fun c => ?_)
  · have hB := hB.1 c
    refine E_sub (lv' := [(0, .ref 66), (1, .int x1), (2, .int x2)]) [0, 1, 2] rfl ?_
    exact EvV.tr hB rfl
  · have hB := hB.2 c
    refine E_aload_n 0 dX12_findOffers_68 rfl rfl rfl ?_
    refine E_iload_n 2 dX12_findOffers_69 rfl rfl ?_
    refine E_iconst (v := 4) dX12_findOffers_70 (by decide) ?_
    refine E_idiv dX12_findOffers_71 (by decide) ?_
    refine E_iload_n 2 dX12_findOffers_72 rfl rfl ?_
    refine E_iconst (v := 4) dX12_findOffers_73 (by decide) ?_
    refine E_irem dX12_findOffers_74 (by decide) ?_
    refine E_cV (ci := 11) (as := [.int (x2 / 4), .int (x2 - x2 / 4 * 4)]) (st := []) cm_X12_isEach cV_X12_326 ⟨_, _, rfl⟩ (by decide) (lo_66 hL) rfl rfl (by decide) (Nat.le_of_ble_eq_true rfl) (Nat.le_of_ble_eq_true rfl) dX12_findOffers_75 hB (fun r G1 hr => ?_)
    obtain ⟨r1, rfl, hE1, hB⟩ := hr
    have hL1 : Lay G1.2.2 := by rw [hE1]; exact hL
    have hE1 : G1.2.2 = G.2.2 := hE1
    show Ev K mX12_findOffers 3 78 [(0, .ref 66), (1, .int x1), (2, .int x2), (3, .int xs0)] [.int r1] G1 _
    refine E_if_eq (tgt := 125) dX12_findOffers_78 (by decide) (fun c => ?_) (fun c => ?_)
    · have hB := hB.1 c
      refine E_sub (lv' := [(0, .ref 66), (1, .int x1), (2, .int x2)]) [0, 1, 2] rfl ?_
      exact EvV.tr hB hE1
    · have hB := hB.2 c
      refine E_aload_n 0 dX12_findOffers_81 rfl rfl rfl ?_
      refine E_iload_n 1 dX12_findOffers_82 rfl rfl ?_
      refine E_iconst (v := 4) dX12_findOffers_83 (by decide) ?_
      refine E_idiv dX12_findOffers_84 (by decide) ?_
      refine E_iload_n 1 dX12_findOffers_85 rfl rfl ?_
      refine E_iconst (v := 4) dX12_findOffers_86 (by decide) ?_
      refine E_irem dX12_findOffers_87 (by decide) ?_
      refine E_iload_n 2 dX12_findOffers_88 rfl rfl ?_
      refine E_iconst (v := 4) dX12_findOffers_89 (by decide) ?_
      refine E_idiv dX12_findOffers_90 (by decide) ?_
      refine E_iload_n 2 dX12_findOffers_91 rfl rfl ?_
      refine E_iconst (v := 4) dX12_findOffers_92 (by decide) ?_
      refine E_irem dX12_findOffers_93 (by decide) ?_
      refine E_cV (ci := 11) (as := [.int (x1 / 4), .int (x1 - x1 / 4 * 4), .int (x2 / 4), .int (x2 - x2 / 4 * 4)]) (st := []) cm_X12_areAmong cV_X12_330 ⟨_, _, rfl⟩ (by decide) (lo_66 hL1) rfl rfl (by decide) (Nat.le_of_ble_eq_true rfl) (Nat.le_of_ble_eq_true rfl) dX12_findOffers_94 hB (fun r G2 hr => ?_)
      obtain ⟨r2, rfl, hE2, hB⟩ := hr
      have hL2 : Lay G2.2.2 := by rw [hE2]; exact hL1
      have hE2 : G2.2.2 = G.2.2 := hE2.trans hE1
      show Ev K mX12_findOffers 3 97 [(0, .ref 66), (1, .int x1), (2, .int x2), (3, .int xs0)] [.int r2] G2 _
      refine E_if_eq (tgt := 125) dX12_findOffers_97 (by decide) (fun c => ?_) (fun c => ?_)
      · have hB := hB.1 c
        refine E_sub (lv' := [(0, .ref 66), (1, .int x1), (2, .int x2)]) [0, 1, 2] rfl ?_
        exact EvV.tr hB hE2
      · have hB := hB.2 c
        refine E_aload_n 0 dX12_findOffers_100 rfl rfl rfl ?_
        refine E_gR (j := 85) fG_X12_93 rfl (lo_66 hL2) (lr_66_32 hL2) (by decide) dX12_findOffers_101 ?_
        refine E_aload_n 0 dX12_findOffers_104 rfl rfl rfl ?_
        refine E_gI (v := sI G2 66 31) fG_X12_320 rfl (lo_66 hL2) rfl dX12_findOffers_105 ?_
        refine E_bipush (v := 20) dX12_findOffers_108 (by decide) ?_
        refine E_iload_n 1 dX12_findOffers_110 rfl rfl ?_
        refine E_imul dX12_findOffers_111 ?_
        refine E_iload_n 2 dX12_findOffers_112 rfl rfl ?_
        refine E_iadd dX12_findOffers_113 ?_
        obtain ⟨qq3, hB⟩ := hB
        refine E_sI (p := Int32.toNatClampNeg (sI G2 66 31)) (la_85 hL2) qq3 rfl dX12_findOffers_114 ?_
        refine E_aload_n 0 dX12_findOffers_115 rfl rfl rfl ?_
        refine E_dup dX12_findOffers_116 rfl ?_
        refine E_gI (v := sI G2 66 31) fG_X12_320 rfl (lo_66 hL2) rfl dX12_findOffers_117 ?_
        refine E_iconst (v := 1) dX12_findOffers_120 (by decide) ?_
        refine E_iadd dX12_findOffers_121 ?_
        refine E_pI fP_X12_320 rfl (lo_66 hL2) dX12_findOffers_122 ?_
        refine E_sub (lv' := [(0, .ref 66), (1, .int x1), (2, .int x2)]) [0, 1, 2] rfl ?_
        exact EvV.tr hB hE2

set_option maxRecDepth 20000 in
set_option maxHeartbeats 2000000 in
theorem kX12_findOffers_125 {K : KT} {G : St} {Q : St → Prop} {x1 : Int32} {x2 : Int32} (hL : Lay G.2.2) 
    (hB : EvV K mX12_findOffers 3 15 [(0, .ref 66), (1, .int x1), (2, .int (x2 + 1))] [] G Q) :
    EvV K mX12_findOffers 3 125 [(0, .ref 66), (1, .int x1), (2, .int x2)] [] G Q := by
  refine E_iinc (v := x2 + 1) (lv' := [(0, .ref 66), (1, .int x1), (2, .int (x2 + 1))]) 2 dX12_findOffers_125 rfl rfl (by decide) rfl ?_
  refine E_goto (tgt := 15) dX12_findOffers_128 (by decide) ?_
  exact EvV.tr hB rfl

set_option maxRecDepth 20000 in
set_option maxHeartbeats 2000000 in
theorem kX12_offered_0 {K : KT} {G : St} {Q : Int32 → St → Prop} {x1 : Int32} (hL : Lay G.2.2) 
    (hB : EvV K mX12_findOffers 3 0 [(0, .ref 66)] [] (uI G 66 0 0) (fun G1 => EvI K mX12_within 0 0 [(0, .int x1), (1, .int 0), (2, .int ((sI G1 66 31) - 1))] [] G1 (fun r2 G2 => ((r2 = 0 → Q (-1) G2) ∧ (¬ r2 = 0 → vp_in x1 380 ∧ Q (sI G2 85 (Int32.toNatClampNeg x1)) G2))))) :
    EvI K mX12_offered 4 0 [(0, .ref 66), (1, .int x1)] [] G Q := by
  refine E_aload_n 0 dX12_offered_0 rfl rfl rfl ?_
  refine E_iconst (v := 0) dX12_offered_1 (by decide) ?_
  refine E_pI fP_X12_1 rfl (lo_66 hL) dX12_offered_2 ?_
  refine E_aload_n 0 dX12_offered_5 rfl rfl rfl ?_
  refine E_cV (ci := 11) (as := []) (st := []) cm_X12_findOffers cV_X12_334 ⟨_, _, rfl⟩ (by decide) (lo_66 hL) rfl rfl (by decide) (Nat.le_of_ble_eq_true rfl) (Nat.le_of_ble_eq_true rfl) dX12_offered_6 hB (fun r G1 hr => ?_)
  obtain ⟨rfl, hE1, hB⟩ := hr
  have hL1 : Lay G1.2.2 := by rw [hE1]; exact hL
  have hE1 : G1.2.2 = G.2.2 := hE1
  show Ev K mX12_offered 4 9 [(0, .ref 66), (1, .int x1)] [] G1 _
  refine E_iload_n 1 dX12_offered_9 rfl rfl ?_
  refine E_iconst (v := 0) dX12_offered_10 (by decide) ?_
  refine E_aload_n 0 dX12_offered_11 rfl rfl rfl ?_
  refine E_gI (v := sI G1 66 31) fG_X12_320 rfl (lo_66 hL1) rfl dX12_offered_12 ?_
  refine E_iconst (v := 1) dX12_offered_15 (by decide) ?_
  refine E_isub dX12_offered_16 ?_
  refine E_callS (as := [.int x1, .int 0, .int ((sI G1 66 31) - 1)]) (st := []) cm_X12_within cS_X12_277 rfl rfl (by decide) (Nat.le_of_ble_eq_true rfl) (Nat.le_of_ble_eq_true rfl) dX12_offered_17 hB (fun r G2 hr => ?_)
  obtain ⟨r2, rfl, hE2, hB⟩ := hr
  have hL2 : Lay G2.2.2 := by rw [hE2]; exact hL1
  have hE2 : G2.2.2 = G.2.2 := hE2.trans hE1
  show Ev K mX12_offered 4 20 [(0, .ref 66), (1, .int x1)] [.int r2] G2 _
  refine E_if_eq (tgt := 32) dX12_offered_20 (by decide) (fun c => ?_) (fun c => ?_)
  · have hB := hB.1 c
    refine E_iconst (v := (-1)) dX12_offered_32 (by decide) ?_
    exact E_iret rfl dX12_offered_33 ⟨_, rfl, hE2, hB⟩
  · have hB := hB.2 c
    refine E_aload_n 0 dX12_offered_23 rfl rfl rfl ?_
    refine E_gR (j := 85) fG_X12_93 rfl (lo_66 hL2) (lr_66_32 hL2) (by decide) dX12_offered_24 ?_
    refine E_iload_n 1 dX12_offered_27 rfl rfl ?_
    obtain ⟨qq3, hB⟩ := hB
    refine E_aI (p := Int32.toNatClampNeg x1) (v := sI G2 85 (Int32.toNatClampNeg x1)) (la_85 hL2) qq3 rfl rfl dX12_offered_28 ?_
    refine E_goto (tgt := 33) dX12_offered_29 (by decide) ?_
    exact E_iret rfl dX12_offered_33 ⟨_, rfl, hE2, hB⟩

set_option maxRecDepth 20000 in
set_option maxHeartbeats 2000000 in
theorem kX12_lets_0 {K : KT} {G : St} {Q : Int32 → St → Prop} {x1 : Int32} (hL : Lay G.2.2) 
    (hB : EvV K mX12_findOffers 3 0 [(0, .ref 66)] [] (uI G 66 0 0) (fun G1 => EvI K mX12_within 0 0 [(0, .int x1), (1, .int 0), (2, .int ((sI G1 66 31) - 1))] [] G1 (fun r2 G2 => ((r2 = 0 → Q 0 G2) ∧ (¬ r2 = 0 → ((¬ (sI G2 66 29) = 20 → EvI K mX12_lets 4 36 [(0, .ref 66), (1, .int x1), (2, .int 0)] [] G2 Q) ∧ ((sI G2 66 29) = 20 → Q 0 G2))))))) :
    EvI K mX12_lets 4 0 [(0, .ref 66), (1, .int x1)] [] G Q := by
  refine E_aload_n 0 dX12_lets_0 rfl rfl rfl ?_
  refine E_iconst (v := 0) dX12_lets_1 (by decide) ?_
  refine E_pI fP_X12_1 rfl (lo_66 hL) dX12_lets_2 ?_
  refine E_aload_n 0 dX12_lets_5 rfl rfl rfl ?_
  refine E_cV (ci := 11) (as := []) (st := []) cm_X12_findOffers cV_X12_334 ⟨_, _, rfl⟩ (by decide) (lo_66 hL) rfl rfl (by decide) (Nat.le_of_ble_eq_true rfl) (Nat.le_of_ble_eq_true rfl) dX12_lets_6 hB (fun r G1 hr => ?_)
  obtain ⟨rfl, hE1, hB⟩ := hr
  have hL1 : Lay G1.2.2 := by rw [hE1]; exact hL
  have hE1 : G1.2.2 = G.2.2 := hE1
  show Ev K mX12_lets 4 9 [(0, .ref 66), (1, .int x1)] [] G1 _
  refine E_iload_n 1 dX12_lets_9 rfl rfl ?_
  refine E_iconst (v := 0) dX12_lets_10 (by decide) ?_
  refine E_aload_n 0 dX12_lets_11 rfl rfl rfl ?_
  refine E_gI (v := sI G1 66 31) fG_X12_320 rfl (lo_66 hL1) rfl dX12_lets_12 ?_
  refine E_iconst (v := 1) dX12_lets_15 (by decide) ?_
  refine E_isub dX12_lets_16 ?_
  refine E_callS (as := [.int x1, .int 0, .int ((sI G1 66 31) - 1)]) (st := []) cm_X12_within cS_X12_277 rfl rfl (by decide) (Nat.le_of_ble_eq_true rfl) (Nat.le_of_ble_eq_true rfl) dX12_lets_17 hB (fun r G2 hr => ?_)
  obtain ⟨r2, rfl, hE2, hB⟩ := hr
  have hL2 : Lay G2.2.2 := by rw [hE2]; exact hL1
  have hE2 : G2.2.2 = G.2.2 := hE2.trans hE1
  show Ev K mX12_lets 4 20 [(0, .ref 66), (1, .int x1)] [.int r2] G2 _
  refine E_if_eq (tgt := 32) dX12_lets_20 (by decide) (fun c => ?_) (fun c => ?_)
  · have hB := hB.1 c
    refine E_iconst (v := 0) dX12_lets_32 (by decide) ?_
    exact E_zret rfl (Or.inl rfl) dX12_lets_33 ⟨_, rfl, hE2, hB⟩
  · have hB := hB.2 c
    refine E_aload_n 0 dX12_lets_23 rfl rfl rfl ?_
    refine E_gI (v := sI G2 66 29) fG_X12_229 rfl (lo_66 hL2) rfl dX12_lets_24 ?_
    refine E_bipush (v := 20) dX12_lets_27 (by decide) ?_
    refine E_icmp_ne (tgt := 34) dX12_lets_29 (by decide) (fun c => ?_) (fun c => ?_)
    · have hB := hB.1 c
      refine E_iconst (v := 0) dX12_lets_34 (by decide) ?_
      refine E_istore_n (lv' := [(0, .ref 66), (1, .int x1), (2, .int 0)]) dX12_lets_35 rfl (by decide) rfl ?_
      exact EvI.tr hB hE2
    · have hB := hB.2 c
      refine E_iconst (v := 0) dX12_lets_32 (by decide) ?_
      exact E_zret rfl (Or.inl rfl) dX12_lets_33 ⟨_, rfl, hE2, hB⟩

set_option maxRecDepth 20000 in
set_option maxHeartbeats 2000000 in
theorem kX12_lets_36 {K : KT} {G : St} {Q : Int32 → St → Prop} {x1 : Int32} {x2 : Int32} (hL : Lay G.2.2) 
    (hB : (((sI G 66 29) ≤ x2 → vp_in x1 380 ∧ vp_in (sI G 66 29) 20 ∧ Q 1 (uI (uI (uI G 84 (Int32.toNatClampNeg (sI G 66 29)) (sI G 85 (Int32.toNatClampNeg x1))) 66 29 ((sI G 66 29) + 1)) 66 15 1)) ∧ (¬ (sI G 66 29) ≤ x2 → vp_in x2 20 ∧ vp_in x1 380 ∧ ((¬ (sI G 84 (Int32.toNatClampNeg x2)) = (sI G 85 (Int32.toNatClampNeg x1)) → EvI K mX12_lets 4 36 [(0, .ref 66), (1, .int x1), (2, .int (x2 + 1))] [] G Q) ∧ ((sI G 84 (Int32.toNatClampNeg x2)) = (sI G 85 (Int32.toNatClampNeg x1)) → Q 0 G))))) :
    EvI K mX12_lets 4 36 [(0, .ref 66), (1, .int x1), (2, .int x2)] [] G Q := by
  refine E_iload_n 2 dX12_lets_36 rfl rfl ?_
  refine E_aload_n 0 dX12_lets_37 rfl rfl rfl ?_
  refine E_gI (v := sI G 66 29) fG_X12_229 rfl (lo_66 hL) rfl dX12_lets_38 ?_
  refine E_icmp_ge (tgt := 67) dX12_lets_41 (by decide) (fun c => ?_) (fun c => ?_)
  · have hB := hB.1 c
    refine E_aload_n 0 dX12_lets_67 rfl rfl rfl ?_
    refine E_gR (j := 84) fG_X12_90 rfl (lo_66 hL) (lr_66_30 hL) (by decide) dX12_lets_68 ?_
    refine E_aload_n 0 dX12_lets_71 rfl rfl rfl ?_
    refine E_gI (v := sI G 66 29) fG_X12_229 rfl (lo_66 hL) rfl dX12_lets_72 ?_
    refine E_aload_n 0 dX12_lets_75 rfl rfl rfl ?_
    refine E_gR (j := 85) fG_X12_93 rfl (lo_66 hL) (lr_66_32 hL) (by decide) dX12_lets_76 ?_
    refine E_iload_n 1 dX12_lets_79 rfl rfl ?_
    obtain ⟨qq1, hB⟩ := hB
    refine E_aI (p := Int32.toNatClampNeg x1) (v := sI G 85 (Int32.toNatClampNeg x1)) (la_85 hL) qq1 rfl rfl dX12_lets_80 ?_
    obtain ⟨qq2, hB⟩ := hB
    refine E_sI (p := Int32.toNatClampNeg (sI G 66 29)) (la_84 hL) qq2 rfl dX12_lets_81 ?_
    refine E_aload_n 0 dX12_lets_82 rfl rfl rfl ?_
    refine E_dup dX12_lets_83 rfl ?_
    refine E_gI (v := sI G 66 29) fG_X12_229 rfl (lo_66 hL) rfl dX12_lets_84 ?_
    refine E_iconst (v := 1) dX12_lets_87 (by decide) ?_
    refine E_iadd dX12_lets_88 ?_
    refine E_pI fP_X12_229 rfl (lo_66 hL) dX12_lets_89 ?_
    refine E_aload_n 0 dX12_lets_92 rfl rfl rfl ?_
    refine E_iconst (v := 1) dX12_lets_93 (by decide) ?_
    refine E_pZ fP_X12_152 rfl (lo_66 hL) (Or.inr rfl) dX12_lets_94 ?_
    refine E_iconst (v := 1) dX12_lets_97 (by decide) ?_
    exact E_zret rfl (Or.inr rfl) dX12_lets_98 ⟨_, rfl, rfl, hB⟩
  · have hB := hB.2 c
    refine E_aload_n 0 dX12_lets_44 rfl rfl rfl ?_
    refine E_gR (j := 84) fG_X12_90 rfl (lo_66 hL) (lr_66_30 hL) (by decide) dX12_lets_45 ?_
    refine E_iload_n 2 dX12_lets_48 rfl rfl ?_
    obtain ⟨qq3, hB⟩ := hB
    refine E_aI (p := Int32.toNatClampNeg x2) (v := sI G 84 (Int32.toNatClampNeg x2)) (la_84 hL) qq3 rfl rfl dX12_lets_49 ?_
    refine E_aload_n 0 dX12_lets_50 rfl rfl rfl ?_
    refine E_gR (j := 85) fG_X12_93 rfl (lo_66 hL) (lr_66_32 hL) (by decide) dX12_lets_51 ?_
    refine E_iload_n 1 dX12_lets_54 rfl rfl ?_
    obtain ⟨qq4, hB⟩ := hB
    refine E_aI (p := Int32.toNatClampNeg x1) (v := sI G 85 (Int32.toNatClampNeg x1)) (la_85 hL) qq4 rfl rfl dX12_lets_55 ?_
    refine E_icmp_ne (tgt := 61) dX12_lets_56 (by decide) (fun c => ?_) (fun c => ?_)
    · have hB := hB.1 c
      refine E_iinc (v := x2 + 1) (lv' := [(0, .ref 66), (1, .int x1), (2, .int (x2 + 1))]) 2 dX12_lets_61 rfl rfl (by decide) rfl ?_
      refine E_goto (tgt := 36) dX12_lets_64 (by decide) ?_
      exact EvI.tr hB rfl
    · have hB := hB.2 c
      refine E_iconst (v := 0) dX12_lets_59 (by decide) ?_
      exact E_zret rfl (Or.inl rfl) dX12_lets_60 ⟨_, rfl, rfl, hB⟩

set_option maxRecDepth 20000 in
set_option maxHeartbeats 2000000 in
theorem kX12_isOne_0 {K : KT} {G : St} {Q : Int32 → St → Prop} {x1 : Int32} (hL : Lay G.2.2) 
    (hB : EvV K mX12_findAll 5 0 [(0, .ref 66)] [] G (fun G1 => ((x1 < 0 → Q 0 G1) ∧ (¬ x1 < 0 → (((sI G1 66 38) ≤ x1 → Q 0 G1) ∧ (¬ (sI G1 66 38) ≤ x1 → Q 1 G1)))))) :
    EvI K mX12_isOne 6 0 [(0, .ref 66), (1, .int x1)] [] G Q := by
  refine E_aload_n 0 dX12_isOne_0 rfl rfl rfl ?_
  refine E_cV (ci := 11) (as := []) (st := []) cm_X12_findAll cV_X12_271 ⟨_, _, rfl⟩ (by decide) (lo_66 hL) rfl rfl (by decide) (Nat.le_of_ble_eq_true rfl) (Nat.le_of_ble_eq_true rfl) dX12_isOne_1 hB (fun r G1 hr => ?_)
  obtain ⟨rfl, hE1, hB⟩ := hr
  have hL1 : Lay G1.2.2 := by rw [hE1]; exact hL
  have hE1 : G1.2.2 = G.2.2 := hE1
  show Ev K mX12_isOne 6 4 [(0, .ref 66), (1, .int x1)] [] G1 _
  refine E_iload_n 1 dX12_isOne_4 rfl rfl ?_
  refine E_if_lt (tgt := 20) dX12_isOne_5 (by decide) (fun c => ?_) (fun c => ?_)
  · have hB := hB.1 c
    refine E_iconst (v := 0) dX12_isOne_20 (by decide) ?_
    exact E_zret rfl (Or.inl rfl) dX12_isOne_21 ⟨_, rfl, hE1, hB⟩
  · have hB := hB.2 c
    refine E_iload_n 1 dX12_isOne_8 rfl rfl ?_
    refine E_aload_n 0 dX12_isOne_9 rfl rfl rfl ?_
    refine E_gI (v := sI G1 66 38) fG_X12_366 rfl (lo_66 hL1) rfl dX12_isOne_10 ?_
    refine E_icmp_ge (tgt := 20) dX12_isOne_13 (by decide) (fun c => ?_) (fun c => ?_)
    · have hB := hB.1 c
      refine E_iconst (v := 0) dX12_isOne_20 (by decide) ?_
      exact E_zret rfl (Or.inl rfl) dX12_isOne_21 ⟨_, rfl, hE1, hB⟩
    · have hB := hB.2 c
      refine E_iconst (v := 1) dX12_isOne_16 (by decide) ?_
      refine E_goto (tgt := 21) dX12_isOne_17 (by decide) ?_
      exact E_zret rfl (Or.inr rfl) dX12_isOne_21 ⟨_, rfl, hE1, hB⟩

set_option maxRecDepth 20000 in
set_option maxHeartbeats 2000000 in
theorem kX12_joining_0 {K : KT} {G : St} {Q : Int32 → St → Prop} {x1 : Int32} {x2 : Int32} (hL : Lay G.2.2) 
    (hB : EvI K mX12_isOne 6 0 [(0, .ref 66), (1, .int x1)] [] (uI G 66 0 0) (fun r1 G1 => ((r1 = 0 → Q (-1) G1) ∧ (¬ r1 = 0 → EvI K mX12_within 0 0 [(0, .int x2), (1, .int 0), (2, .int 3)] [] G1 (fun r2 G2 => ((¬ r2 = 0 → vp_in x1 175000 ∧ vp_in (sI G2 92 (Int32.toNatClampNeg x1)) 175000 ∧ ((x2 = 0 → Q (sI G2 90 (Int32.toNatClampNeg (sI G2 92 (Int32.toNatClampNeg x1)))) G2) ∧ (x2 = 1 → vp_in x1 175000 ∧ vp_in (sI G2 92 (Int32.toNatClampNeg x1)) 175000 ∧ Q (sI G2 91 (Int32.toNatClampNeg (sI G2 92 (Int32.toNatClampNeg x1)))) G2) ∧ (x2 = 2 → EvI K mX12_codeOf 1 0 [(0, .ref 66), (1, .int (sI G2 90 (Int32.toNatClampNeg (sI G2 92 (Int32.toNatClampNeg x1)))))] [] G2 (fun r7 G7 => EvI K mX12_questionOf 0 0 [(0, .ref 66), (1, .int r7)] [] G7 (fun r8 G8 => Q r8 G8))) ∧ (¬ x2 = 0 → ¬ x2 = 1 → ¬ x2 = 2 → EvI K mX12_tiesOf 0 0 [(0, .ref 66), (1, .int (sI G2 90 (Int32.toNatClampNeg (sI G2 92 (Int32.toNatClampNeg x1)))))] [] G2 (fun r9 G9 => Q r9 G9)))) ∧ (r2 = 0 → Q (-1) G2))))))) :
    EvI K mX12_joining 7 0 [(0, .ref 66), (1, .int x1), (2, .int x2)] [] G Q := by
  refine E_aload_n 0 dX12_joining_0 rfl rfl rfl ?_
  refine E_iconst (v := 0) dX12_joining_1 (by decide) ?_
  refine E_pI fP_X12_1 rfl (lo_66 hL) dX12_joining_2 ?_
  refine E_aload_n 0 dX12_joining_5 rfl rfl rfl ?_
  refine E_iload_n 1 dX12_joining_6 rfl rfl ?_
  refine E_cV (ci := 11) (as := [.int x1]) (st := []) cm_X12_isOne cV_X12_384 ⟨_, _, rfl⟩ (by decide) (lo_66 hL) rfl rfl (by decide) (Nat.le_of_ble_eq_true rfl) (Nat.le_of_ble_eq_true rfl) dX12_joining_7 hB (fun r G1 hr => ?_)
  obtain ⟨r1, rfl, hE1, hB⟩ := hr
  have hL1 : Lay G1.2.2 := by rw [hE1]; exact hL
  have hE1 : G1.2.2 = G.2.2 := hE1
  show Ev K mX12_joining 7 10 [(0, .ref 66), (1, .int x1), (2, .int x2)] [.int r1] G1 _
  refine E_if_eq (tgt := 22) dX12_joining_10 (by decide) (fun c => ?_) (fun c => ?_)
  · have hB := hB.1 c
    refine E_iconst (v := (-1)) dX12_joining_22 (by decide) ?_
    exact E_iret rfl dX12_joining_23 ⟨_, rfl, hE1, hB⟩
  · have hB := hB.2 c
    refine E_iload_n 2 dX12_joining_13 rfl rfl ?_
    refine E_iconst (v := 0) dX12_joining_14 (by decide) ?_
    refine E_iconst (v := 3) dX12_joining_15 (by decide) ?_
    refine E_callS (as := [.int x2, .int 0, .int 3]) (st := []) cm_X12_within cS_X12_277 rfl rfl (by decide) (Nat.le_of_ble_eq_true rfl) (Nat.le_of_ble_eq_true rfl) dX12_joining_16 hB (fun r G2 hr => ?_)
    obtain ⟨r2, rfl, hE2, hB⟩ := hr
    have hL2 : Lay G2.2.2 := by rw [hE2]; exact hL1
    have hE2 : G2.2.2 = G.2.2 := hE2.trans hE1
    show Ev K mX12_joining 7 19 [(0, .ref 66), (1, .int x1), (2, .int x2)] [.int r2] G2 _
    refine E_if_ne (tgt := 24) dX12_joining_19 (by decide) (fun c => ?_) (fun c => ?_)
    · have hB := hB.1 c
      refine E_aload_n 0 dX12_joining_24 rfl rfl rfl ?_
      refine E_gR (j := 90) fG_X12_109 rfl (lo_66 hL2) (lr_66_39 hL2) (by decide) dX12_joining_25 ?_
      refine E_aload_n 0 dX12_joining_28 rfl rfl rfl ?_
      refine E_gR (j := 92) fG_X12_115 rfl (lo_66 hL2) (lr_66_41 hL2) (by decide) dX12_joining_29 ?_
      refine E_iload_n 1 dX12_joining_32 rfl rfl ?_
      obtain ⟨qq3, hB⟩ := hB
      refine E_aI (p := Int32.toNatClampNeg x1) (v := sI G2 92 (Int32.toNatClampNeg x1)) (la_92 hL2) qq3 rfl rfl dX12_joining_33 ?_
      obtain ⟨qq4, hB⟩ := hB
      refine E_aI (p := Int32.toNatClampNeg (sI G2 92 (Int32.toNatClampNeg x1))) (v := sI G2 90 (Int32.toNatClampNeg (sI G2 92 (Int32.toNatClampNeg x1)))) (la_90 hL2) qq4 rfl rfl dX12_joining_34 ?_
      refine E_istore_n (lv' := [(0, .ref 66), (1, .int x1), (2, .int x2), (3, .int (sI G2 90 (Int32.toNatClampNeg (sI G2 92 (Int32.toNatClampNeg x1)))))]) dX12_joining_35 rfl (by decide) rfl ?_
      refine E_iload_n 2 dX12_joining_36 rfl rfl ?_
      obtain ⟨hA, hB⟩ := hB
      by_cases c0 : x2 = 0
      · have hB := hA c0
        refine E_tableIn (off := 27) (tgt := 64) dX12_joining_37 (by rw [c0]; decide) (by rw [c0]; decide) (by rw [c0]; decide) (by decide) ?_
        refine E_iload_n 3 dX12_joining_64 rfl rfl ?_
        exact E_iret rfl dX12_joining_65 ⟨_, rfl, hE2, hB⟩
      obtain ⟨hA, hB⟩ := hB
      by_cases c1 : x2 = 1
      · have hB := hA c1
        refine E_tableIn (off := 29) (tgt := 66) dX12_joining_37 (by rw [c1]; decide) (by rw [c1]; decide) (by rw [c1]; decide) (by decide) ?_
        refine E_aload_n 0 dX12_joining_66 rfl rfl rfl ?_
        refine E_gR (j := 91) fG_X12_112 rfl (lo_66 hL2) (lr_66_40 hL2) (by decide) dX12_joining_67 ?_
        refine E_aload_n 0 dX12_joining_70 rfl rfl rfl ?_
        refine E_gR (j := 92) fG_X12_115 rfl (lo_66 hL2) (lr_66_41 hL2) (by decide) dX12_joining_71 ?_
        refine E_iload_n 1 dX12_joining_74 rfl rfl ?_
        obtain ⟨qq5, hB⟩ := hB
        refine E_aI (p := Int32.toNatClampNeg x1) (v := sI G2 92 (Int32.toNatClampNeg x1)) (la_92 hL2) qq5 rfl rfl dX12_joining_75 ?_
        obtain ⟨qq6, hB⟩ := hB
        refine E_aI (p := Int32.toNatClampNeg (sI G2 92 (Int32.toNatClampNeg x1))) (v := sI G2 91 (Int32.toNatClampNeg (sI G2 92 (Int32.toNatClampNeg x1)))) (la_91 hL2) qq6 rfl rfl dX12_joining_76 ?_
        exact E_iret rfl dX12_joining_77 ⟨_, rfl, hE2, hB⟩
      obtain ⟨hA, hB⟩ := hB
      by_cases c2 : x2 = 2
      · have hB := hA c2
        refine E_tableIn (off := 41) (tgt := 78) dX12_joining_37 (by rw [c2]; decide) (by rw [c2]; decide) (by rw [c2]; decide) (by decide) ?_
        refine E_aload_n 0 dX12_joining_78 rfl rfl rfl ?_
        refine E_aload_n 0 dX12_joining_79 rfl rfl rfl ?_
        refine E_iload_n 3 dX12_joining_80 rfl rfl ?_
        refine E_cV (ci := 11) (as := [.int (sI G2 90 (Int32.toNatClampNeg (sI G2 92 (Int32.toNatClampNeg x1))))]) (st := [.ref 66]) cm_X12_codeOf cV_X12_387 ⟨_, _, rfl⟩ (by decide) (lo_66 hL2) rfl rfl (by decide) (Nat.le_of_ble_eq_true rfl) (Nat.le_of_ble_eq_true rfl) dX12_joining_81 hB (fun r G7 hr => ?_)
        obtain ⟨r7, rfl, hE7, hB⟩ := hr
        have hL7 : Lay G7.2.2 := by rw [hE7]; exact hL2
        have hE7 : G7.2.2 = G.2.2 := hE7.trans hE2
        show Ev K mX12_joining 7 84 [(0, .ref 66), (1, .int x1), (2, .int x2), (3, .int (sI G2 90 (Int32.toNatClampNeg (sI G2 92 (Int32.toNatClampNeg x1)))))] [.int r7, .ref 66] G7 _
        refine E_cV (ci := 11) (as := [.int r7]) (st := []) cm_X12_questionOf cV_X12_274 ⟨_, _, rfl⟩ (by decide) (lo_66 hL7) rfl rfl (by decide) (Nat.le_of_ble_eq_true rfl) (Nat.le_of_ble_eq_true rfl) dX12_joining_84 hB (fun r G8 hr => ?_)
        obtain ⟨r8, rfl, hE8, hB⟩ := hr
        have hL8 : Lay G8.2.2 := by rw [hE8]; exact hL7
        have hE8 : G8.2.2 = G.2.2 := hE8.trans hE7
        show Ev K mX12_joining 7 87 [(0, .ref 66), (1, .int x1), (2, .int x2), (3, .int (sI G2 90 (Int32.toNatClampNeg (sI G2 92 (Int32.toNatClampNeg x1)))))] [.int r8] G8 _
        exact E_iret rfl dX12_joining_87 ⟨_, rfl, hE8, hB⟩
      have hB := hB c0 c1 c2
      refine E_tableOut (tgt := 88) dX12_joining_37 (tb_outZ (by decide) (by decide) (fun z z1 z2 => ?_)) (by decide) ?_
      · have z3 : z = 0 ∨ z = 1 ∨ z = 2 := by omega
        rcases z3 with rfl | rfl | rfl
        · exact fun q => c0 (q.trans (by decide))
        · exact fun q => c1 (q.trans (by decide))
        · exact fun q => c2 (q.trans (by decide))
      refine E_aload_n 0 dX12_joining_88 rfl rfl rfl ?_
      refine E_iload_n 3 dX12_joining_89 rfl rfl ?_
      refine E_cV (ci := 11) (as := [.int (sI G2 90 (Int32.toNatClampNeg (sI G2 92 (Int32.toNatClampNeg x1))))]) (st := []) cm_X12_tiesOf cV_X12_372 ⟨_, _, rfl⟩ (by decide) (lo_66 hL2) rfl rfl (by decide) (Nat.le_of_ble_eq_true rfl) (Nat.le_of_ble_eq_true rfl) dX12_joining_90 hB (fun r G9 hr => ?_)
      obtain ⟨r9, rfl, hE9, hB⟩ := hr
      have hL9 : Lay G9.2.2 := by rw [hE9]; exact hL2
      have hE9 : G9.2.2 = G.2.2 := hE9.trans hE2
      show Ev K mX12_joining 7 93 [(0, .ref 66), (1, .int x1), (2, .int x2), (3, .int (sI G2 90 (Int32.toNatClampNeg (sI G2 92 (Int32.toNatClampNeg x1)))))] [.int r9] G9 _
      exact E_iret rfl dX12_joining_93 ⟨_, rfl, hE9, hB⟩
    · have hB := hB.2 c
      refine E_iconst (v := (-1)) dX12_joining_22 (by decide) ?_
      exact E_iret rfl dX12_joining_23 ⟨_, rfl, hE2, hB⟩

set_option maxRecDepth 20000 in
set_option maxHeartbeats 2000000 in
theorem kX12_place_0 {K : KT} {G : St} {Q : Int32 → St → Prop} {x1 : Int32} {x2 : Int32} (hL : Lay G.2.2) 
    (hB : EvI K mX12_isOne 6 0 [(0, .ref 66), (1, .int x1)] [] (uI G 66 0 0) (fun r1 G1 => ((r1 = 0 → Q (-1) G1) ∧ (¬ r1 = 0 → EvI K mX12_within 0 0 [(0, .int x2), (1, .int 0), (2, .int ((sI G1 66 20) - 1))] [] G1 (fun r2 G2 => ((r2 = 0 → Q (-1) G2) ∧ (¬ r2 = 0 → vp_in x1 175000 ∧ vp_in (sI G2 92 (Int32.toNatClampNeg x1)) 175000 ∧ EvI K mX12_holderIn 0 0 [(0, .ref 66), (1, .int (sI G2 90 (Int32.toNatClampNeg (sI G2 92 (Int32.toNatClampNeg x1))))), (2, .int x2)] [] G2 (fun r5 G5 => Q r5 G5)))))))) :
    EvI K mX12_place 7 0 [(0, .ref 66), (1, .int x1), (2, .int x2)] [] G Q := by
  refine E_aload_n 0 dX12_place_0 rfl rfl rfl ?_
  refine E_iconst (v := 0) dX12_place_1 (by decide) ?_
  refine E_pI fP_X12_1 rfl (lo_66 hL) dX12_place_2 ?_
  refine E_aload_n 0 dX12_place_5 rfl rfl rfl ?_
  refine E_iload_n 1 dX12_place_6 rfl rfl ?_
  refine E_cV (ci := 11) (as := [.int x1]) (st := []) cm_X12_isOne cV_X12_384 ⟨_, _, rfl⟩ (by decide) (lo_66 hL) rfl rfl (by decide) (Nat.le_of_ble_eq_true rfl) (Nat.le_of_ble_eq_true rfl) dX12_place_7 hB (fun r G1 hr => ?_)
  obtain ⟨r1, rfl, hE1, hB⟩ := hr
  have hL1 : Lay G1.2.2 := by rw [hE1]; exact hL
  have hE1 : G1.2.2 = G.2.2 := hE1
  show Ev K mX12_place 7 10 [(0, .ref 66), (1, .int x1), (2, .int x2)] [.int r1] G1 _
  refine E_if_eq (tgt := 46) dX12_place_10 (by decide) (fun c => ?_) (fun c => ?_)
  · have hB := hB.1 c
    refine E_iconst (v := (-1)) dX12_place_46 (by decide) ?_
    exact E_iret rfl dX12_place_47 ⟨_, rfl, hE1, hB⟩
  · have hB := hB.2 c
    refine E_iload_n 2 dX12_place_13 rfl rfl ?_
    refine E_iconst (v := 0) dX12_place_14 (by decide) ?_
    refine E_aload_n 0 dX12_place_15 rfl rfl rfl ?_
    refine E_gI (v := sI G1 66 20) fG_X12_226 rfl (lo_66 hL1) rfl dX12_place_16 ?_
    refine E_iconst (v := 1) dX12_place_19 (by decide) ?_
    refine E_isub dX12_place_20 ?_
    refine E_callS (as := [.int x2, .int 0, .int ((sI G1 66 20) - 1)]) (st := []) cm_X12_within cS_X12_277 rfl rfl (by decide) (Nat.le_of_ble_eq_true rfl) (Nat.le_of_ble_eq_true rfl) dX12_place_21 hB (fun r G2 hr => ?_)
    obtain ⟨r2, rfl, hE2, hB⟩ := hr
    have hL2 : Lay G2.2.2 := by rw [hE2]; exact hL1
    have hE2 : G2.2.2 = G.2.2 := hE2.trans hE1
    show Ev K mX12_place 7 24 [(0, .ref 66), (1, .int x1), (2, .int x2)] [.int r2] G2 _
    refine E_if_eq (tgt := 46) dX12_place_24 (by decide) (fun c => ?_) (fun c => ?_)
    · have hB := hB.1 c
      refine E_iconst (v := (-1)) dX12_place_46 (by decide) ?_
      exact E_iret rfl dX12_place_47 ⟨_, rfl, hE2, hB⟩
    · have hB := hB.2 c
      refine E_aload_n 0 dX12_place_27 rfl rfl rfl ?_
      refine E_aload_n 0 dX12_place_28 rfl rfl rfl ?_
      refine E_gR (j := 90) fG_X12_109 rfl (lo_66 hL2) (lr_66_39 hL2) (by decide) dX12_place_29 ?_
      refine E_aload_n 0 dX12_place_32 rfl rfl rfl ?_
      refine E_gR (j := 92) fG_X12_115 rfl (lo_66 hL2) (lr_66_41 hL2) (by decide) dX12_place_33 ?_
      refine E_iload_n 1 dX12_place_36 rfl rfl ?_
      obtain ⟨qq3, hB⟩ := hB
      refine E_aI (p := Int32.toNatClampNeg x1) (v := sI G2 92 (Int32.toNatClampNeg x1)) (la_92 hL2) qq3 rfl rfl dX12_place_37 ?_
      obtain ⟨qq4, hB⟩ := hB
      refine E_aI (p := Int32.toNatClampNeg (sI G2 92 (Int32.toNatClampNeg x1))) (v := sI G2 90 (Int32.toNatClampNeg (sI G2 92 (Int32.toNatClampNeg x1)))) (la_90 hL2) qq4 rfl rfl dX12_place_38 ?_
      refine E_iload_n 2 dX12_place_39 rfl rfl ?_
      refine E_cV (ci := 11) (as := [.int (sI G2 90 (Int32.toNatClampNeg (sI G2 92 (Int32.toNatClampNeg x1)))), .int x2]) (st := []) cm_X12_holderIn cV_X12_360 ⟨_, _, rfl⟩ (by decide) (lo_66 hL2) rfl rfl (by decide) (Nat.le_of_ble_eq_true rfl) (Nat.le_of_ble_eq_true rfl) dX12_place_40 hB (fun r G5 hr => ?_)
      obtain ⟨r5, rfl, hE5, hB⟩ := hr
      have hL5 : Lay G5.2.2 := by rw [hE5]; exact hL2
      have hE5 : G5.2.2 = G.2.2 := hE5.trans hE2
      show Ev K mX12_place 7 43 [(0, .ref 66), (1, .int x1), (2, .int x2)] [.int r5] G5 _
      refine E_goto (tgt := 47) dX12_place_43 (by decide) ?_
      exact E_iret rfl dX12_place_47 ⟨_, rfl, hE5, hB⟩

set_option maxRecDepth 20000 in
set_option maxHeartbeats 2000000 in
theorem kX12_holds_0 {K : KT} {G : St} {Q : Int32 → St → Prop} {x1 : Int32} {x2 : Int32} (hL : Lay G.2.2) 
    (hB : EvV K mX12_findAll 5 0 [(0, .ref 66)] [] (uI G 66 0 0) (fun G1 => EvI K mX12_isSeen 1 0 [(0, .ref 66), (1, .int x1)] [] G1 (fun r2 G2 => ((r2 = 0 → Q (-1) G2) ∧ (¬ r2 = 0 → EvI K mX12_within 0 0 [(0, .int x2), (1, .int 0), (2, .int ((sI G2 66 20) - 1))] [] G2 (fun r3 G3 => ((r3 = 0 → Q (-1) G3) ∧ (¬ r3 = 0 → vp_in ((4 * x1) + x2) 120 ∧ Q (sI G3 89 (Int32.toNatClampNeg ((4 * x1) + x2))) G3)))))))) :
    EvI K mX12_holds 6 0 [(0, .ref 66), (1, .int x1), (2, .int x2)] [] G Q := by
  refine E_aload_n 0 dX12_holds_0 rfl rfl rfl ?_
  refine E_iconst (v := 0) dX12_holds_1 (by decide) ?_
  refine E_pI fP_X12_1 rfl (lo_66 hL) dX12_holds_2 ?_
  refine E_aload_n 0 dX12_holds_5 rfl rfl rfl ?_
  refine E_cV (ci := 11) (as := []) (st := []) cm_X12_findAll cV_X12_271 ⟨_, _, rfl⟩ (by decide) (lo_66 hL) rfl rfl (by decide) (Nat.le_of_ble_eq_true rfl) (Nat.le_of_ble_eq_true rfl) dX12_holds_6 hB (fun r G1 hr => ?_)
  obtain ⟨rfl, hE1, hB⟩ := hr
  have hL1 : Lay G1.2.2 := by rw [hE1]; exact hL
  have hE1 : G1.2.2 = G.2.2 := hE1
  show Ev K mX12_holds 6 9 [(0, .ref 66), (1, .int x1), (2, .int x2)] [] G1 _
  refine E_aload_n 0 dX12_holds_9 rfl rfl rfl ?_
  refine E_iload_n 1 dX12_holds_10 rfl rfl ?_
  refine E_cV (ci := 11) (as := [.int x1]) (st := []) cm_X12_isSeen cV_X12_287 ⟨_, _, rfl⟩ (by decide) (lo_66 hL1) rfl rfl (by decide) (Nat.le_of_ble_eq_true rfl) (Nat.le_of_ble_eq_true rfl) dX12_holds_11 hB (fun r G2 hr => ?_)
  obtain ⟨r2, rfl, hE2, hB⟩ := hr
  have hL2 : Lay G2.2.2 := by rw [hE2]; exact hL1
  have hE2 : G2.2.2 = G.2.2 := hE2.trans hE1
  show Ev K mX12_holds 6 14 [(0, .ref 66), (1, .int x1), (2, .int x2)] [.int r2] G2 _
  refine E_if_eq (tgt := 44) dX12_holds_14 (by decide) (fun c => ?_) (fun c => ?_)
  · have hB := hB.1 c
    refine E_iconst (v := (-1)) dX12_holds_44 (by decide) ?_
    exact E_iret rfl dX12_holds_45 ⟨_, rfl, hE2, hB⟩
  · have hB := hB.2 c
    refine E_iload_n 2 dX12_holds_17 rfl rfl ?_
    refine E_iconst (v := 0) dX12_holds_18 (by decide) ?_
    refine E_aload_n 0 dX12_holds_19 rfl rfl rfl ?_
    refine E_gI (v := sI G2 66 20) fG_X12_226 rfl (lo_66 hL2) rfl dX12_holds_20 ?_
    refine E_iconst (v := 1) dX12_holds_23 (by decide) ?_
    refine E_isub dX12_holds_24 ?_
    refine E_callS (as := [.int x2, .int 0, .int ((sI G2 66 20) - 1)]) (st := []) cm_X12_within cS_X12_277 rfl rfl (by decide) (Nat.le_of_ble_eq_true rfl) (Nat.le_of_ble_eq_true rfl) dX12_holds_25 hB (fun r G3 hr => ?_)
    obtain ⟨r3, rfl, hE3, hB⟩ := hr
    have hL3 : Lay G3.2.2 := by rw [hE3]; exact hL2
    have hE3 : G3.2.2 = G.2.2 := hE3.trans hE2
    show Ev K mX12_holds 6 28 [(0, .ref 66), (1, .int x1), (2, .int x2)] [.int r3] G3 _
    refine E_if_eq (tgt := 44) dX12_holds_28 (by decide) (fun c => ?_) (fun c => ?_)
    · have hB := hB.1 c
      refine E_iconst (v := (-1)) dX12_holds_44 (by decide) ?_
      exact E_iret rfl dX12_holds_45 ⟨_, rfl, hE3, hB⟩
    · have hB := hB.2 c
      refine E_aload_n 0 dX12_holds_31 rfl rfl rfl ?_
      refine E_gR (j := 89) fG_X12_105 rfl (lo_66 hL3) (lr_66_36 hL3) (by decide) dX12_holds_32 ?_
      refine E_iconst (v := 4) dX12_holds_35 (by decide) ?_
      refine E_iload_n 1 dX12_holds_36 rfl rfl ?_
      refine E_imul dX12_holds_37 ?_
      refine E_iload_n 2 dX12_holds_38 rfl rfl ?_
      refine E_iadd dX12_holds_39 ?_
      obtain ⟨qq4, hB⟩ := hB
      refine E_aI (p := Int32.toNatClampNeg ((4 * x1) + x2)) (v := sI G3 89 (Int32.toNatClampNeg ((4 * x1) + x2))) (la_89 hL3) qq4 rfl rfl dX12_holds_40 ?_
      refine E_goto (tgt := 45) dX12_holds_41 (by decide) ?_
      exact E_iret rfl dX12_holds_45 ⟨_, rfl, hE3, hB⟩

set_option maxRecDepth 20000 in
set_option maxHeartbeats 2000000 in
theorem kX12_found_0 {K : KT} {G : St} {Q : Int32 → St → Prop} {x1 : Int32} (hL : Lay G.2.2) 
    (hB : EvV K mX12_findAll 5 0 [(0, .ref 66)] [] (uI G 66 0 0) (fun G1 => EvI K mX12_within 0 0 [(0, .int x1), (1, .int 0), (2, .int ((sI G1 66 20) - 1))] [] G1 (fun r2 G2 => ((¬ r2 = 0 → EvI K mX12_found 6 29 [(0, .ref 66), (1, .int x1), (2, .int 0), (3, .int 0)] [] G2 Q) ∧ (r2 = 0 → Q (-1) G2))))) :
    EvI K mX12_found 6 0 [(0, .ref 66), (1, .int x1)] [] G Q := by
  refine E_aload_n 0 dX12_found_0 rfl rfl rfl ?_
  refine E_iconst (v := 0) dX12_found_1 (by decide) ?_
  refine E_pI fP_X12_1 rfl (lo_66 hL) dX12_found_2 ?_
  refine E_aload_n 0 dX12_found_5 rfl rfl rfl ?_
  refine E_cV (ci := 11) (as := []) (st := []) cm_X12_findAll cV_X12_271 ⟨_, _, rfl⟩ (by decide) (lo_66 hL) rfl rfl (by decide) (Nat.le_of_ble_eq_true rfl) (Nat.le_of_ble_eq_true rfl) dX12_found_6 hB (fun r G1 hr => ?_)
  obtain ⟨rfl, hE1, hB⟩ := hr
  have hL1 : Lay G1.2.2 := by rw [hE1]; exact hL
  have hE1 : G1.2.2 = G.2.2 := hE1
  show Ev K mX12_found 6 9 [(0, .ref 66), (1, .int x1)] [] G1 _
  refine E_iload_n 1 dX12_found_9 rfl rfl ?_
  refine E_iconst (v := 0) dX12_found_10 (by decide) ?_
  refine E_aload_n 0 dX12_found_11 rfl rfl rfl ?_
  refine E_gI (v := sI G1 66 20) fG_X12_226 rfl (lo_66 hL1) rfl dX12_found_12 ?_
  refine E_iconst (v := 1) dX12_found_15 (by decide) ?_
  refine E_isub dX12_found_16 ?_
  refine E_callS (as := [.int x1, .int 0, .int ((sI G1 66 20) - 1)]) (st := []) cm_X12_within cS_X12_277 rfl rfl (by decide) (Nat.le_of_ble_eq_true rfl) (Nat.le_of_ble_eq_true rfl) dX12_found_17 hB (fun r G2 hr => ?_)
  obtain ⟨r2, rfl, hE2, hB⟩ := hr
  have hL2 : Lay G2.2.2 := by rw [hE2]; exact hL1
  have hE2 : G2.2.2 = G.2.2 := hE2.trans hE1
  show Ev K mX12_found 6 20 [(0, .ref 66), (1, .int x1)] [.int r2] G2 _
  refine E_if_ne (tgt := 25) dX12_found_20 (by decide) (fun c => ?_) (fun c => ?_)
  · have hB := hB.1 c
    refine E_iconst (v := 0) dX12_found_25 (by decide) ?_
    refine E_istore_n (lv' := [(0, .ref 66), (1, .int x1), (2, .int 0)]) dX12_found_26 rfl (by decide) rfl ?_
    refine E_iconst (v := 0) dX12_found_27 (by decide) ?_
    refine E_istore_n (lv' := [(0, .ref 66), (1, .int x1), (2, .int 0), (3, .int 0)]) dX12_found_28 rfl (by decide) rfl ?_
    exact EvI.tr hB hE2
  · have hB := hB.2 c
    refine E_iconst (v := (-1)) dX12_found_23 (by decide) ?_
    exact E_iret rfl dX12_found_24 ⟨_, rfl, hE2, hB⟩

set_option maxRecDepth 20000 in
set_option maxHeartbeats 2000000 in
theorem kX12_found_29 {K : KT} {G : St} {Q : Int32 → St → Prop} {x1 : Int32} {x2 : Int32} {x3 : Int32} (hL : Lay G.2.2) 
    (hB : (((sI G 66 16) ≤ x3 → Q x2 G) ∧ (¬ (sI G 66 16) ≤ x3 → vp_in ((4 * x3) + x1) 120 ∧ (((sI G 89 (Int32.toNatClampNeg ((4 * x3) + x1))) < 0 → EvI K mX12_found 6 56 [(0, .ref 66), (1, .int x1), (3, .int x3)] [.int 0, .int x2] G Q) ∧ (¬ (sI G 89 (Int32.toNatClampNeg ((4 * x3) + x1))) < 0 → EvI K mX12_found 6 56 [(0, .ref 66), (1, .int x1), (3, .int x3)] [.int 1, .int x2] G Q))))) :
    EvI K mX12_found 6 29 [(0, .ref 66), (1, .int x1), (2, .int x2), (3, .int x3)] [] G Q := by
  refine E_iload_n 3 dX12_found_29 rfl rfl ?_
  refine E_aload_n 0 dX12_found_30 rfl rfl rfl ?_
  refine E_gI (v := sI G 66 16) fG_X12_223 rfl (lo_66 hL) rfl dX12_found_31 ?_
  refine E_icmp_ge (tgt := 64) dX12_found_34 (by decide) (fun c => ?_) (fun c => ?_)
  · have hB := hB.1 c
    refine E_iload_n 2 dX12_found_64 rfl rfl ?_
    exact E_iret rfl dX12_found_65 ⟨_, rfl, rfl, hB⟩
  · have hB := hB.2 c
    refine E_iload_n 2 dX12_found_37 rfl rfl ?_
    refine E_aload_n 0 dX12_found_38 rfl rfl rfl ?_
    refine E_gR (j := 89) fG_X12_105 rfl (lo_66 hL) (lr_66_36 hL) (by decide) dX12_found_39 ?_
    refine E_iconst (v := 4) dX12_found_42 (by decide) ?_
    refine E_iload_n 3 dX12_found_43 rfl rfl ?_
    refine E_imul dX12_found_44 ?_
    refine E_iload_n 1 dX12_found_45 rfl rfl ?_
    refine E_iadd dX12_found_46 ?_
    obtain ⟨qq1, hB⟩ := hB
    refine E_aI (p := Int32.toNatClampNeg ((4 * x3) + x1)) (v := sI G 89 (Int32.toNatClampNeg ((4 * x3) + x1))) (la_89 hL) qq1 rfl rfl dX12_found_47 ?_
    refine E_if_lt (tgt := 55) dX12_found_48 (by decide) (fun c => ?_) (fun c => ?_)
    · have hB := hB.1 c
      refine E_iconst (v := 0) dX12_found_55 (by decide) ?_
      refine E_sub (lv' := [(0, .ref 66), (1, .int x1), (3, .int x3)]) [0, 1, 3] rfl ?_
      exact EvI.tr hB rfl
    · have hB := hB.2 c
      refine E_iconst (v := 1) dX12_found_51 (by decide) ?_
      refine E_goto (tgt := 56) dX12_found_52 (by decide) ?_
      refine E_sub (lv' := [(0, .ref 66), (1, .int x1), (3, .int x3)]) [0, 1, 3] rfl ?_
      exact EvI.tr hB rfl

set_option maxRecDepth 20000 in
set_option maxHeartbeats 2000000 in
theorem kX12_found_56 {K : KT} {G : St} {Q : Int32 → St → Prop} {x1 : Int32} {x3 : Int32} {xs0 : Int32} {xs1 : Int32} (hL : Lay G.2.2) 
    (hB : EvI K mX12_found 6 29 [(0, .ref 66), (1, .int x1), (2, .int (xs0 + xs1)), (3, .int (x3 + 1))] [] G Q) :
    EvI K mX12_found 6 56 [(0, .ref 66), (1, .int x1), (3, .int x3)] [.int xs1, .int xs0] G Q := by
  refine E_iadd dX12_found_56 ?_
  refine E_istore_n (lv' := [(0, .ref 66), (1, .int x1), (2, .int (xs0 + xs1)), (3, .int x3)]) dX12_found_57 rfl (by decide) rfl ?_
  refine E_iinc (v := x3 + 1) (lv' := [(0, .ref 66), (1, .int x1), (2, .int (xs0 + xs1)), (3, .int (x3 + 1))]) 3 dX12_found_58 rfl rfl (by decide) rfl ?_
  refine E_goto (tgt := 29) dX12_found_61 (by decide) ?_
  exact EvI.tr hB rfl

set_option maxRecDepth 20000 in
set_option maxHeartbeats 2000000 in
theorem kX12_tie_0 {K : KT} {G : St} {Q : Int32 → St → Prop} {x1 : Int32} {x2 : Int32} (hL : Lay G.2.2) 
    (hB : EvV K mX12_findAll 5 0 [(0, .ref 66)] [] (uI G 66 0 0) (fun G1 => EvI K mX12_isSeen 1 0 [(0, .ref 66), (1, .int x1)] [] G1 (fun r2 G2 => ((r2 = 0 → Q (-1) G2) ∧ (¬ r2 = 0 → EvI K mX12_isSeen 1 0 [(0, .ref 66), (1, .int x2)] [] G2 (fun r3 G3 => ((r3 = 0 → Q (-1) G3) ∧ (¬ r3 = 0 → vp_in ((30 * x1) + x2) 900 ∧ Q (sI G3 86 (Int32.toNatClampNeg ((30 * x1) + x2))) G3)))))))) :
    EvI K mX12_tie 6 0 [(0, .ref 66), (1, .int x1), (2, .int x2)] [] G Q := by
  refine E_aload_n 0 dX12_tie_0 rfl rfl rfl ?_
  refine E_iconst (v := 0) dX12_tie_1 (by decide) ?_
  refine E_pI fP_X12_1 rfl (lo_66 hL) dX12_tie_2 ?_
  refine E_aload_n 0 dX12_tie_5 rfl rfl rfl ?_
  refine E_cV (ci := 11) (as := []) (st := []) cm_X12_findAll cV_X12_271 ⟨_, _, rfl⟩ (by decide) (lo_66 hL) rfl rfl (by decide) (Nat.le_of_ble_eq_true rfl) (Nat.le_of_ble_eq_true rfl) dX12_tie_6 hB (fun r G1 hr => ?_)
  obtain ⟨rfl, hE1, hB⟩ := hr
  have hL1 : Lay G1.2.2 := by rw [hE1]; exact hL
  have hE1 : G1.2.2 = G.2.2 := hE1
  show Ev K mX12_tie 6 9 [(0, .ref 66), (1, .int x1), (2, .int x2)] [] G1 _
  refine E_aload_n 0 dX12_tie_9 rfl rfl rfl ?_
  refine E_iload_n 1 dX12_tie_10 rfl rfl ?_
  refine E_cV (ci := 11) (as := [.int x1]) (st := []) cm_X12_isSeen cV_X12_287 ⟨_, _, rfl⟩ (by decide) (lo_66 hL1) rfl rfl (by decide) (Nat.le_of_ble_eq_true rfl) (Nat.le_of_ble_eq_true rfl) dX12_tie_11 hB (fun r G2 hr => ?_)
  obtain ⟨r2, rfl, hE2, hB⟩ := hr
  have hL2 : Lay G2.2.2 := by rw [hE2]; exact hL1
  have hE2 : G2.2.2 = G.2.2 := hE2.trans hE1
  show Ev K mX12_tie 6 14 [(0, .ref 66), (1, .int x1), (2, .int x2)] [.int r2] G2 _
  refine E_if_eq (tgt := 39) dX12_tie_14 (by decide) (fun c => ?_) (fun c => ?_)
  · have hB := hB.1 c
    refine E_iconst (v := (-1)) dX12_tie_39 (by decide) ?_
    exact E_iret rfl dX12_tie_40 ⟨_, rfl, hE2, hB⟩
  · have hB := hB.2 c
    refine E_aload_n 0 dX12_tie_17 rfl rfl rfl ?_
    refine E_iload_n 2 dX12_tie_18 rfl rfl ?_
    refine E_cV (ci := 11) (as := [.int x2]) (st := []) cm_X12_isSeen cV_X12_287 ⟨_, _, rfl⟩ (by decide) (lo_66 hL2) rfl rfl (by decide) (Nat.le_of_ble_eq_true rfl) (Nat.le_of_ble_eq_true rfl) dX12_tie_19 hB (fun r G3 hr => ?_)
    obtain ⟨r3, rfl, hE3, hB⟩ := hr
    have hL3 : Lay G3.2.2 := by rw [hE3]; exact hL2
    have hE3 : G3.2.2 = G.2.2 := hE3.trans hE2
    show Ev K mX12_tie 6 22 [(0, .ref 66), (1, .int x1), (2, .int x2)] [.int r3] G3 _
    refine E_if_eq (tgt := 39) dX12_tie_22 (by decide) (fun c => ?_) (fun c => ?_)
    · have hB := hB.1 c
      refine E_iconst (v := (-1)) dX12_tie_39 (by decide) ?_
      exact E_iret rfl dX12_tie_40 ⟨_, rfl, hE3, hB⟩
    · have hB := hB.2 c
      refine E_aload_n 0 dX12_tie_25 rfl rfl rfl ?_
      refine E_gR (j := 86) fG_X12_96 rfl (lo_66 hL3) (lr_66_33 hL3) (by decide) dX12_tie_26 ?_
      refine E_bipush (v := 30) dX12_tie_29 (by decide) ?_
      refine E_iload_n 1 dX12_tie_31 rfl rfl ?_
      refine E_imul dX12_tie_32 ?_
      refine E_iload_n 2 dX12_tie_33 rfl rfl ?_
      refine E_iadd dX12_tie_34 ?_
      obtain ⟨qq4, hB⟩ := hB
      refine E_aI (p := Int32.toNatClampNeg ((30 * x1) + x2)) (v := sI G3 86 (Int32.toNatClampNeg ((30 * x1) + x2))) (la_86 hL3) qq4 rfl rfl dX12_tie_35 ?_
      refine E_goto (tgt := 40) dX12_tie_36 (by decide) ?_
      exact E_iret rfl dX12_tie_40 ⟨_, rfl, hE3, hB⟩

set_option maxRecDepth 20000 in
set_option maxHeartbeats 2000000 in
theorem kX12_leastTie_0 {K : KT} {G : St} {Q : Int32 → St → Prop}  (hL : Lay G.2.2) 
    (hB : EvI K mX12_leastTie 1 4 [(0, .ref 66), (1, .int (-1)), (2, .int 0)] [] G Q) :
    EvI K mX12_leastTie 1 0 [(0, .ref 66)] [] G Q := by
  refine E_iconst (v := (-1)) dX12_leastTie_0 (by decide) ?_
  refine E_istore_n (lv' := [(0, .ref 66), (1, .int (-1))]) dX12_leastTie_1 rfl (by decide) rfl ?_
  refine E_iconst (v := 0) dX12_leastTie_2 (by decide) ?_
  refine E_istore_n (lv' := [(0, .ref 66), (1, .int (-1)), (2, .int 0)]) dX12_leastTie_3 rfl (by decide) rfl ?_
  exact EvI.tr hB rfl

set_option maxRecDepth 20000 in
set_option maxHeartbeats 2000000 in
theorem kX12_leastTie_4 {K : KT} {G : St} {Q : Int32 → St → Prop} {x1 : Int32} {x2 : Int32} (hL : Lay G.2.2) 
    (hB : ((900 ≤ x2 → Q x1 G) ∧ (¬ 900 ≤ x2 → vp_in x2 900 ∧ ((0 ≤ (sI G 86 (Int32.toNatClampNeg x2)) → vp_in x2 900 ∧ EvI K mX12_least 0 0 [(0, .int x1), (1, .int (sI G 86 (Int32.toNatClampNeg x2)))] [] G (fun r3 G3 => EvI K mX12_leastTie 1 34 [(0, .ref 66), (2, .int x2)] [.int r3] G3 Q)) ∧ (¬ 0 ≤ (sI G 86 (Int32.toNatClampNeg x2)) → EvI K mX12_leastTie 1 34 [(0, .ref 66), (2, .int x2)] [.int x1] G Q))))) :
    EvI K mX12_leastTie 1 4 [(0, .ref 66), (1, .int x1), (2, .int x2)] [] G Q := by
  refine E_iload_n 2 dX12_leastTie_4 rfl rfl ?_
  refine E_sipush (v := 900) dX12_leastTie_5 (by decide) ?_
  refine E_icmp_ge (tgt := 41) dX12_leastTie_8 (by decide) (fun c => ?_) (fun c => ?_)
  · have hB := hB.1 c
    refine E_iload_n 1 dX12_leastTie_41 rfl rfl ?_
    exact E_iret rfl dX12_leastTie_42 ⟨_, rfl, rfl, hB⟩
  · have hB := hB.2 c
    refine E_aload_n 0 dX12_leastTie_11 rfl rfl rfl ?_
    refine E_gR (j := 86) fG_X12_96 rfl (lo_66 hL) (lr_66_33 hL) (by decide) dX12_leastTie_12 ?_
    refine E_iload_n 2 dX12_leastTie_15 rfl rfl ?_
    obtain ⟨qq1, hB⟩ := hB
    refine E_aI (p := Int32.toNatClampNeg x2) (v := sI G 86 (Int32.toNatClampNeg x2)) (la_86 hL) qq1 rfl rfl dX12_leastTie_16 ?_
    refine E_if_ge (tgt := 24) dX12_leastTie_17 (by decide) (fun c => ?_) (fun c => ?_)
    · have hB := hB.1 c
      refine E_iload_n 1 dX12_leastTie_24 rfl rfl ?_
      refine E_aload_n 0 dX12_leastTie_25 rfl rfl rfl ?_
      refine E_gR (j := 86) fG_X12_96 rfl (lo_66 hL) (lr_66_33 hL) (by decide) dX12_leastTie_26 ?_
      refine E_iload_n 2 dX12_leastTie_29 rfl rfl ?_
      obtain ⟨qq2, hB⟩ := hB
      refine E_aI (p := Int32.toNatClampNeg x2) (v := sI G 86 (Int32.toNatClampNeg x2)) (la_86 hL) qq2 rfl rfl dX12_leastTie_30 ?_
      refine E_callS (as := [.int x1, .int (sI G 86 (Int32.toNatClampNeg x2))]) (st := []) cm_X12_least cS_X12_314 rfl rfl (by decide) (Nat.le_of_ble_eq_true rfl) (Nat.le_of_ble_eq_true rfl) dX12_leastTie_31 hB (fun r G3 hr => ?_)
      obtain ⟨r3, rfl, hE3, hB⟩ := hr
      have hL3 : Lay G3.2.2 := by rw [hE3]; exact hL
      have hE3 : G3.2.2 = G.2.2 := hE3
      show Ev K mX12_leastTie 1 34 [(0, .ref 66), (1, .int x1), (2, .int x2)] [.int r3] G3 _
      refine E_sub (lv' := [(0, .ref 66), (2, .int x2)]) [0, 2] rfl ?_
      exact EvI.tr hB hE3
    · have hB := hB.2 c
      refine E_iload_n 1 dX12_leastTie_20 rfl rfl ?_
      refine E_goto (tgt := 34) dX12_leastTie_21 (by decide) ?_
      refine E_sub (lv' := [(0, .ref 66), (2, .int x2)]) [0, 2] rfl ?_
      exact EvI.tr hB rfl

set_option maxRecDepth 20000 in
set_option maxHeartbeats 2000000 in
theorem kX12_leastTie_34 {K : KT} {G : St} {Q : Int32 → St → Prop} {x2 : Int32} {xs0 : Int32} (hL : Lay G.2.2) 
    (hB : EvI K mX12_leastTie 1 4 [(0, .ref 66), (1, .int xs0), (2, .int (x2 + 1))] [] G Q) :
    EvI K mX12_leastTie 1 34 [(0, .ref 66), (2, .int x2)] [.int xs0] G Q := by
  refine E_istore_n (lv' := [(0, .ref 66), (1, .int xs0), (2, .int x2)]) dX12_leastTie_34 rfl (by decide) rfl ?_
  refine E_iinc (v := x2 + 1) (lv' := [(0, .ref 66), (1, .int xs0), (2, .int (x2 + 1))]) 2 dX12_leastTie_35 rfl rfl (by decide) rfl ?_
  refine E_goto (tgt := 4) dX12_leastTie_38 (by decide) ?_
  exact EvI.tr hB rfl

set_option maxRecDepth 20000 in
set_option maxHeartbeats 2000000 in
theorem kX12_boundOf_0 {K : KT} {G : St} {Q : Int32 → St → Prop} {x1 : Int32} (hL : Lay G.2.2) 
    (hB : EvI K mX12_boundOf 2 4 [(0, .ref 66), (1, .int x1), (2, .int 0), (3, .int 0)] [] G Q) :
    EvI K mX12_boundOf 2 0 [(0, .ref 66), (1, .int x1)] [] G Q := by
  refine E_iconst (v := 0) dX12_boundOf_0 (by decide) ?_
  refine E_istore_n (lv' := [(0, .ref 66), (1, .int x1), (2, .int 0)]) dX12_boundOf_1 rfl (by decide) rfl ?_
  refine E_iconst (v := 0) dX12_boundOf_2 (by decide) ?_
  refine E_istore_n (lv' := [(0, .ref 66), (1, .int x1), (2, .int 0), (3, .int 0)]) dX12_boundOf_3 rfl (by decide) rfl ?_
  exact EvI.tr hB rfl

set_option maxRecDepth 20000 in
set_option maxHeartbeats 2000000 in
theorem kX12_boundOf_4 {K : KT} {G : St} {Q : Int32 → St → Prop} {x1 : Int32} {x2 : Int32} {x3 : Int32} (hL : Lay G.2.2) 
    (hB : (((sI G 66 20) ≤ x3 → ((¬ x1 = 1 → EvI K mX12_leastTie 1 0 [(0, .ref 66)] [] G (fun r1 G1 => ((0 ≤ r1 → EvI K mX12_leastTie 1 0 [(0, .ref 66)] [] G1 (fun r2 G2 => Q (x2 + ((x1 - 1) * r2)) G2)) ∧ (¬ 0 ≤ r1 → Q (-1) G1)))) ∧ (x1 = 1 → Q x2 G))) ∧ (¬ (sI G 66 20) ≤ x3 → EvI K mX12_boundOf 2 18 [(0, .ref 66), (1, .int x1), (2, .int x2), (3, .int x3), (4, .int (-1)), (5, .int 0)] [] G Q))) :
    EvI K mX12_boundOf 2 4 [(0, .ref 66), (1, .int x1), (2, .int x2), (3, .int x3)] [] G Q := by
  refine E_iload_n 3 dX12_boundOf_4 rfl rfl ?_
  refine E_aload_n 0 dX12_boundOf_5 rfl rfl rfl ?_
  refine E_gI (v := sI G 66 20) fG_X12_226 rfl (lo_66 hL) rfl dX12_boundOf_6 ?_
  refine E_icmp_ge (tgt := 88) dX12_boundOf_9 (by decide) (fun c => ?_) (fun c => ?_)
  · have hB := hB.1 c
    refine E_iload_n 1 dX12_boundOf_88 rfl rfl ?_
    refine E_iconst (v := 1) dX12_boundOf_89 (by decide) ?_
    refine E_icmp_ne (tgt := 95) dX12_boundOf_90 (by decide) (fun c => ?_) (fun c => ?_)
    · have hB := hB.1 c
      refine E_aload_n 0 dX12_boundOf_95 rfl rfl rfl ?_
      refine E_cV (ci := 11) (as := []) (st := []) cm_X12_leastTie cV_X12_390 ⟨_, _, rfl⟩ (by decide) (lo_66 hL) rfl rfl (by decide) (Nat.le_of_ble_eq_true rfl) (Nat.le_of_ble_eq_true rfl) dX12_boundOf_96 hB (fun r G1 hr => ?_)
      obtain ⟨r1, rfl, hE1, hB⟩ := hr
      have hL1 : Lay G1.2.2 := by rw [hE1]; exact hL
      have hE1 : G1.2.2 = G.2.2 := hE1
      show Ev K mX12_boundOf 2 99 [(0, .ref 66), (1, .int x1), (2, .int x2), (3, .int x3)] [.int r1] G1 _
      refine E_if_ge (tgt := 106) dX12_boundOf_99 (by decide) (fun c => ?_) (fun c => ?_)
      · have hB := hB.1 c
        refine E_iload_n 2 dX12_boundOf_106 rfl rfl ?_
        refine E_iload_n 1 dX12_boundOf_107 rfl rfl ?_
        refine E_iconst (v := 1) dX12_boundOf_108 (by decide) ?_
        refine E_isub dX12_boundOf_109 ?_
        refine E_aload_n 0 dX12_boundOf_110 rfl rfl rfl ?_
        refine E_cV (ci := 11) (as := []) (st := [.int (x1 - 1), .int x2]) cm_X12_leastTie cV_X12_390 ⟨_, _, rfl⟩ (by decide) (lo_66 hL1) rfl rfl (by decide) (Nat.le_of_ble_eq_true rfl) (Nat.le_of_ble_eq_true rfl) dX12_boundOf_111 hB (fun r G2 hr => ?_)
        obtain ⟨r2, rfl, hE2, hB⟩ := hr
        have hL2 : Lay G2.2.2 := by rw [hE2]; exact hL1
        have hE2 : G2.2.2 = G.2.2 := hE2.trans hE1
        show Ev K mX12_boundOf 2 114 [(0, .ref 66), (1, .int x1), (2, .int x2), (3, .int x3)] [.int r2, .int (x1 - 1), .int x2] G2 _
        refine E_imul dX12_boundOf_114 ?_
        refine E_iadd dX12_boundOf_115 ?_
        exact E_iret rfl dX12_boundOf_116 ⟨_, rfl, hE2, hB⟩
      · have hB := hB.2 c
        refine E_iconst (v := (-1)) dX12_boundOf_102 (by decide) ?_
        refine E_goto (tgt := 116) dX12_boundOf_103 (by decide) ?_
        exact E_iret rfl dX12_boundOf_116 ⟨_, rfl, hE1, hB⟩
    · have hB := hB.2 c
      refine E_iload_n 2 dX12_boundOf_93 rfl rfl ?_
      exact E_iret rfl dX12_boundOf_94 ⟨_, rfl, rfl, hB⟩
  · have hB := hB.2 c
    refine E_iconst (v := (-1)) dX12_boundOf_12 (by decide) ?_
    refine E_istore (lv' := [(0, .ref 66), (1, .int x1), (2, .int x2), (3, .int x3), (4, .int (-1))]) dX12_boundOf_13 (by decide) rfl ?_
    refine E_iconst (v := 0) dX12_boundOf_15 (by decide) ?_
    refine E_istore (lv' := [(0, .ref 66), (1, .int x1), (2, .int x2), (3, .int x3), (4, .int (-1)), (5, .int 0)]) dX12_boundOf_16 (by decide) rfl ?_
    exact EvI.tr hB rfl

set_option maxRecDepth 20000 in
set_option maxHeartbeats 2000000 in
theorem kX12_boundOf_18 {K : KT} {G : St} {Q : Int32 → St → Prop} {x1 : Int32} {x2 : Int32} {x3 : Int32} {x4 : Int32} {x5 : Int32} (hL : Lay G.2.2) 
    (hB : (((sI G 66 16) ≤ x5 → ((0 ≤ x4 → EvI K mX12_boundOf 2 4 [(0, .ref 66), (1, .int x1), (2, .int (x2 + x4)), (3, .int (x3 + 1))] [] G Q) ∧ (¬ 0 ≤ x4 → Q (-1) G))) ∧ (¬ (sI G 66 16) ≤ x5 → vp_in ((4 * x5) + x3) 120 ∧ ((0 ≤ (sI G 89 (Int32.toNatClampNeg ((4 * x5) + x3))) → vp_in ((4 * x5) + x3) 120 ∧ EvI K mX12_least 0 0 [(0, .int x4), (1, .int (sI G 89 (Int32.toNatClampNeg ((4 * x5) + x3))))] [] G (fun r3 G3 => EvI K mX12_boundOf 2 62 [(0, .ref 66), (1, .int x1), (2, .int x2), (3, .int x3), (5, .int x5)] [.int r3] G3 Q)) ∧ (¬ 0 ≤ (sI G 89 (Int32.toNatClampNeg ((4 * x5) + x3))) → EvI K mX12_boundOf 2 62 [(0, .ref 66), (1, .int x1), (2, .int x2), (3, .int x3), (5, .int x5)] [.int x4] G Q))))) :
    EvI K mX12_boundOf 2 18 [(0, .ref 66), (1, .int x1), (2, .int x2), (3, .int x3), (4, .int x4), (5, .int x5)] [] G Q := by
  refine E_iload 5 dX12_boundOf_18 rfl ?_
  refine E_aload_n 0 dX12_boundOf_20 rfl rfl rfl ?_
  refine E_gI (v := sI G 66 16) fG_X12_223 rfl (lo_66 hL) rfl dX12_boundOf_21 ?_
  refine E_icmp_ge (tgt := 70) dX12_boundOf_24 (by decide) (fun c => ?_) (fun c => ?_)
  · have hB := hB.1 c
    refine E_iload 4 dX12_boundOf_70 rfl ?_
    refine E_if_ge (tgt := 77) dX12_boundOf_72 (by decide) (fun c => ?_) (fun c => ?_)
    · have hB := hB.1 c
      refine E_iload_n 2 dX12_boundOf_77 rfl rfl ?_
      refine E_iload 4 dX12_boundOf_78 rfl ?_
      refine E_iadd dX12_boundOf_80 ?_
      refine E_istore_n (lv' := [(0, .ref 66), (1, .int x1), (2, .int (x2 + x4)), (3, .int x3), (4, .int x4), (5, .int x5)]) dX12_boundOf_81 rfl (by decide) rfl ?_
      refine E_iinc (v := x3 + 1) (lv' := [(0, .ref 66), (1, .int x1), (2, .int (x2 + x4)), (3, .int (x3 + 1)), (4, .int x4), (5, .int x5)]) 3 dX12_boundOf_82 rfl rfl (by decide) rfl ?_
      refine E_goto (tgt := 4) dX12_boundOf_85 (by decide) ?_
      refine E_sub (lv' := [(0, .ref 66), (1, .int x1), (2, .int (x2 + x4)), (3, .int (x3 + 1))]) [0, 1, 2, 3] rfl ?_
      exact EvI.tr hB rfl
    · have hB := hB.2 c
      refine E_iconst (v := (-1)) dX12_boundOf_75 (by decide) ?_
      exact E_iret rfl dX12_boundOf_76 ⟨_, rfl, rfl, hB⟩
  · have hB := hB.2 c
    refine E_aload_n 0 dX12_boundOf_27 rfl rfl rfl ?_
    refine E_gR (j := 89) fG_X12_105 rfl (lo_66 hL) (lr_66_36 hL) (by decide) dX12_boundOf_28 ?_
    refine E_iconst (v := 4) dX12_boundOf_31 (by decide) ?_
    refine E_iload 5 dX12_boundOf_32 rfl ?_
    refine E_imul dX12_boundOf_34 ?_
    refine E_iload_n 3 dX12_boundOf_35 rfl rfl ?_
    refine E_iadd dX12_boundOf_36 ?_
    obtain ⟨qq1, hB⟩ := hB
    refine E_aI (p := Int32.toNatClampNeg ((4 * x5) + x3)) (v := sI G 89 (Int32.toNatClampNeg ((4 * x5) + x3))) (la_89 hL) qq1 rfl rfl dX12_boundOf_37 ?_
    refine E_if_ge (tgt := 46) dX12_boundOf_38 (by decide) (fun c => ?_) (fun c => ?_)
    · have hB := hB.1 c
      refine E_iload 4 dX12_boundOf_46 rfl ?_
      refine E_aload_n 0 dX12_boundOf_48 rfl rfl rfl ?_
      refine E_gR (j := 89) fG_X12_105 rfl (lo_66 hL) (lr_66_36 hL) (by decide) dX12_boundOf_49 ?_
      refine E_iconst (v := 4) dX12_boundOf_52 (by decide) ?_
      refine E_iload 5 dX12_boundOf_53 rfl ?_
      refine E_imul dX12_boundOf_55 ?_
      refine E_iload_n 3 dX12_boundOf_56 rfl rfl ?_
      refine E_iadd dX12_boundOf_57 ?_
      obtain ⟨qq2, hB⟩ := hB
      refine E_aI (p := Int32.toNatClampNeg ((4 * x5) + x3)) (v := sI G 89 (Int32.toNatClampNeg ((4 * x5) + x3))) (la_89 hL) qq2 rfl rfl dX12_boundOf_58 ?_
      refine E_callS (as := [.int x4, .int (sI G 89 (Int32.toNatClampNeg ((4 * x5) + x3)))]) (st := []) cm_X12_least cS_X12_314 rfl rfl (by decide) (Nat.le_of_ble_eq_true rfl) (Nat.le_of_ble_eq_true rfl) dX12_boundOf_59 hB (fun r G3 hr => ?_)
      obtain ⟨r3, rfl, hE3, hB⟩ := hr
      have hL3 : Lay G3.2.2 := by rw [hE3]; exact hL
      have hE3 : G3.2.2 = G.2.2 := hE3
      show Ev K mX12_boundOf 2 62 [(0, .ref 66), (1, .int x1), (2, .int x2), (3, .int x3), (4, .int x4), (5, .int x5)] [.int r3] G3 _
      refine E_sub (lv' := [(0, .ref 66), (1, .int x1), (2, .int x2), (3, .int x3), (5, .int x5)]) [0, 1, 2, 3, 5] rfl ?_
      exact EvI.tr hB hE3
    · have hB := hB.2 c
      refine E_iload 4 dX12_boundOf_41 rfl ?_
      refine E_goto (tgt := 62) dX12_boundOf_43 (by decide) ?_
      refine E_sub (lv' := [(0, .ref 66), (1, .int x1), (2, .int x2), (3, .int x3), (5, .int x5)]) [0, 1, 2, 3, 5] rfl ?_
      exact EvI.tr hB rfl

set_option maxRecDepth 20000 in
set_option maxHeartbeats 2000000 in
theorem kX12_boundOf_62 {K : KT} {G : St} {Q : Int32 → St → Prop} {x1 : Int32} {x2 : Int32} {x3 : Int32} {x5 : Int32} {xs0 : Int32} (hL : Lay G.2.2) 
    (hB : EvI K mX12_boundOf 2 18 [(0, .ref 66), (1, .int x1), (2, .int x2), (3, .int x3), (4, .int xs0), (5, .int (x5 + 1))] [] G Q) :
    EvI K mX12_boundOf 2 62 [(0, .ref 66), (1, .int x1), (2, .int x2), (3, .int x3), (5, .int x5)] [.int xs0] G Q := by
  refine E_istore (lv' := [(0, .ref 66), (1, .int x1), (2, .int x2), (3, .int x3), (4, .int xs0), (5, .int x5)]) dX12_boundOf_62 (by decide) rfl ?_
  refine E_iinc (v := x5 + 1) (lv' := [(0, .ref 66), (1, .int x1), (2, .int x2), (3, .int x3), (4, .int xs0), (5, .int (x5 + 1))]) 5 dX12_boundOf_64 rfl rfl (by decide) rfl ?_
  refine E_goto (tgt := 18) dX12_boundOf_67 (by decide) ?_
  exact EvI.tr hB rfl

set_option maxRecDepth 20000 in
set_option maxHeartbeats 2000000 in
theorem kX12_looks_0 {K : KT} {G : St} {Q : Int32 → St → Prop} {x1 : Int32} {x2 : Int32} (hL : Lay G.2.2) 
    (hB : (((sI G 66 20) = 0 → Q (-1) (uI G 66 0 0)) ∧ (¬ (sI G 66 20) = 0 → EvI K mX12_within 0 0 [(0, .int x1), (1, .int 0), (2, .int 1000000)] [] (uI G 66 0 0) (fun r1 G1 => ((r1 = 0 → Q (-1) G1) ∧ (¬ r1 = 0 → EvI K mX12_within 0 0 [(0, .int x2), (1, .int 0), (2, .int 2)] [] G1 (fun r2 G2 => ((¬ r2 = 0 → EvV K mX12_findAll 5 0 [(0, .ref 66)] [] G2 (fun G3 => EvI K mX12_looks 6 56 [(0, .ref 66), (1, .int x1), (2, .int x2), (3, .int ((1 <<< ((sI G3 66 20) &&& 31)) - 1)), (4, .int 0), (5, .int (-1)), (6, .int 1)] [] G3 Q)) ∧ (r2 = 0 → Q (-1) G2))))))))) :
    EvI K mX12_looks 6 0 [(0, .ref 66), (1, .int x1), (2, .int x2)] [] G Q := by
  refine E_aload_n 0 dX12_looks_0 rfl rfl rfl ?_
  refine E_iconst (v := 0) dX12_looks_1 (by decide) ?_
  refine E_pI fP_X12_1 rfl (lo_66 hL) dX12_looks_2 ?_
  refine E_aload_n 0 dX12_looks_5 rfl rfl rfl ?_
  refine E_gI (v := sI G 66 20) fG_X12_226 rfl (lo_66 hL) rfl dX12_looks_6 ?_
  refine E_if_eq (tgt := 32) dX12_looks_9 (by decide) (fun c => ?_) (fun c => ?_)
  · have hB := hB.1 c
    refine E_iconst (v := (-1)) dX12_looks_32 (by decide) ?_
    exact E_iret rfl dX12_looks_33 ⟨_, rfl, rfl, hB⟩
  · have hB := hB.2 c
    refine E_iload_n 1 dX12_looks_12 rfl rfl ?_
    refine E_iconst (v := 0) dX12_looks_13 (by decide) ?_
    refine E_ldcw (v := 1000000) tm_1768 dX12_looks_14 ?_
    refine E_callS (as := [.int x1, .int 0, .int 1000000]) (st := []) cm_X12_within cS_X12_277 rfl rfl (by decide) (Nat.le_of_ble_eq_true rfl) (Nat.le_of_ble_eq_true rfl) dX12_looks_17 hB (fun r G1 hr => ?_)
    obtain ⟨r1, rfl, hE1, hB⟩ := hr
    have hL1 : Lay G1.2.2 := by rw [hE1]; exact hL
    have hE1 : G1.2.2 = G.2.2 := hE1
    show Ev K mX12_looks 6 20 [(0, .ref 66), (1, .int x1), (2, .int x2)] [.int r1] G1 _
    refine E_if_eq (tgt := 32) dX12_looks_20 (by decide) (fun c => ?_) (fun c => ?_)
    · have hB := hB.1 c
      refine E_iconst (v := (-1)) dX12_looks_32 (by decide) ?_
      exact E_iret rfl dX12_looks_33 ⟨_, rfl, hE1, hB⟩
    · have hB := hB.2 c
      refine E_iload_n 2 dX12_looks_23 rfl rfl ?_
      refine E_iconst (v := 0) dX12_looks_24 (by decide) ?_
      refine E_iconst (v := 2) dX12_looks_25 (by decide) ?_
      refine E_callS (as := [.int x2, .int 0, .int 2]) (st := []) cm_X12_within cS_X12_277 rfl rfl (by decide) (Nat.le_of_ble_eq_true rfl) (Nat.le_of_ble_eq_true rfl) dX12_looks_26 hB (fun r G2 hr => ?_)
      obtain ⟨r2, rfl, hE2, hB⟩ := hr
      have hL2 : Lay G2.2.2 := by rw [hE2]; exact hL1
      have hE2 : G2.2.2 = G.2.2 := hE2.trans hE1
      show Ev K mX12_looks 6 29 [(0, .ref 66), (1, .int x1), (2, .int x2)] [.int r2] G2 _
      refine E_if_ne (tgt := 34) dX12_looks_29 (by decide) (fun c => ?_) (fun c => ?_)
      · have hB := hB.1 c
        refine E_aload_n 0 dX12_looks_34 rfl rfl rfl ?_
        refine E_cV (ci := 11) (as := []) (st := []) cm_X12_findAll cV_X12_271 ⟨_, _, rfl⟩ (by decide) (lo_66 hL2) rfl rfl (by decide) (Nat.le_of_ble_eq_true rfl) (Nat.le_of_ble_eq_true rfl) dX12_looks_35 hB (fun r G3 hr => ?_)
        obtain ⟨rfl, hE3, hB⟩ := hr
        have hL3 : Lay G3.2.2 := by rw [hE3]; exact hL2
        have hE3 : G3.2.2 = G.2.2 := hE3.trans hE2
        show Ev K mX12_looks 6 38 [(0, .ref 66), (1, .int x1), (2, .int x2)] [] G3 _
        refine E_iconst (v := 1) dX12_looks_38 (by decide) ?_
        refine E_aload_n 0 dX12_looks_39 rfl rfl rfl ?_
        refine E_gI (v := sI G3 66 20) fG_X12_226 rfl (lo_66 hL3) rfl dX12_looks_40 ?_
        refine E_ishl dX12_looks_43 ?_
        refine E_iconst (v := 1) dX12_looks_44 (by decide) ?_
        refine E_isub dX12_looks_45 ?_
        refine E_istore_n (lv' := [(0, .ref 66), (1, .int x1), (2, .int x2), (3, .int ((1 <<< ((sI G3 66 20) &&& 31)) - 1))]) dX12_looks_46 rfl (by decide) rfl ?_
        refine E_iconst (v := 0) dX12_looks_47 (by decide) ?_
        refine E_istore (lv' := [(0, .ref 66), (1, .int x1), (2, .int x2), (3, .int ((1 <<< ((sI G3 66 20) &&& 31)) - 1)), (4, .int 0)]) dX12_looks_48 (by decide) rfl ?_
        refine E_iconst (v := (-1)) dX12_looks_50 (by decide) ?_
        refine E_istore (lv' := [(0, .ref 66), (1, .int x1), (2, .int x2), (3, .int ((1 <<< ((sI G3 66 20) &&& 31)) - 1)), (4, .int 0), (5, .int (-1))]) dX12_looks_51 (by decide) rfl ?_
        refine E_iconst (v := 1) dX12_looks_53 (by decide) ?_
        refine E_istore (lv' := [(0, .ref 66), (1, .int x1), (2, .int x2), (3, .int ((1 <<< ((sI G3 66 20) &&& 31)) - 1)), (4, .int 0), (5, .int (-1)), (6, .int 1)]) dX12_looks_54 (by decide) rfl ?_
        exact EvI.tr hB hE3
      · have hB := hB.2 c
        refine E_iconst (v := (-1)) dX12_looks_32 (by decide) ?_
        exact E_iret rfl dX12_looks_33 ⟨_, rfl, hE2, hB⟩

set_option maxRecDepth 20000 in
set_option maxHeartbeats 2000000 in
theorem kX12_looks_56 {K : KT} {G : St} {Q : Int32 → St → Prop} {x1 : Int32} {x2 : Int32} {x3 : Int32} {x4 : Int32} {x5 : Int32} {x6 : Int32} (hL : Lay G.2.2) 
    (hB : (((sI G 66 27) < x6 → EvI K mX12_looks 6 199 [(2, .int x2), (4, .int x4), (5, .int x5)] [] G Q) ∧ (¬ (sI G 66 27) < x6 → (((sI G 66 16) < x6 → EvI K mX12_looks 6 199 [(2, .int x2), (4, .int x4), (5, .int x5)] [] G Q) ∧ (¬ (sI G 66 16) < x6 → EvI K mX12_looks 6 82 [(0, .ref 66), (1, .int x1), (2, .int x2), (3, .int x3), (4, .int x4), (5, .int x5), (6, .int x6), (7, .int ((1 <<< (x6 &&& 31)) - 1))] [] G Q))))) :
    EvI K mX12_looks 6 56 [(0, .ref 66), (1, .int x1), (2, .int x2), (3, .int x3), (4, .int x4), (5, .int x5), (6, .int x6)] [] G Q := by
  refine E_iload 6 dX12_looks_56 rfl ?_
  refine E_aload_n 0 dX12_looks_58 rfl rfl rfl ?_
  refine E_gI (v := sI G 66 27) fG_X12_149 rfl (lo_66 hL) rfl dX12_looks_59 ?_
  refine E_icmp_gt (tgt := 199) dX12_looks_62 (by decide) (fun c => ?_) (fun c => ?_)
  · have hB := hB.1 c
    refine E_sub (lv' := [(2, .int x2), (4, .int x4), (5, .int x5)]) [2, 4, 5] rfl ?_
    exact EvI.tr hB rfl
  · have hB := hB.2 c
    refine E_iload 6 dX12_looks_65 rfl ?_
    refine E_aload_n 0 dX12_looks_67 rfl rfl rfl ?_
    refine E_gI (v := sI G 66 16) fG_X12_223 rfl (lo_66 hL) rfl dX12_looks_68 ?_
    refine E_icmp_gt (tgt := 199) dX12_looks_71 (by decide) (fun c => ?_) (fun c => ?_)
    · have hB := hB.1 c
      refine E_sub (lv' := [(2, .int x2), (4, .int x4), (5, .int x5)]) [2, 4, 5] rfl ?_
      exact EvI.tr hB rfl
    · have hB := hB.2 c
      refine E_iconst (v := 1) dX12_looks_74 (by decide) ?_
      refine E_iload 6 dX12_looks_75 rfl ?_
      refine E_ishl dX12_looks_77 ?_
      refine E_iconst (v := 1) dX12_looks_78 (by decide) ?_
      refine E_isub dX12_looks_79 ?_
      refine E_istore (lv' := [(0, .ref 66), (1, .int x1), (2, .int x2), (3, .int x3), (4, .int x4), (5, .int x5), (6, .int x6), (7, .int ((1 <<< (x6 &&& 31)) - 1))]) dX12_looks_80 (by decide) rfl ?_
      exact EvI.tr hB rfl

set_option maxRecDepth 20000 in
set_option maxHeartbeats 2000000 in
theorem kX12_looks_82 {K : KT} {G : St} {Q : Int32 → St → Prop} {x1 : Int32} {x2 : Int32} {x3 : Int32} {x4 : Int32} {x5 : Int32} {x6 : Int32} {x7 : Int32} (hL : Lay G.2.2) 
    (hB : (((1 <<< ((sI G 66 16) &&& 31)) ≤ x7 → EvI K mX12_looks 6 56 [(0, .ref 66), (1, .int x1), (2, .int x2), (3, .int x3), (4, .int x4), (5, .int x5), (6, .int (x6 + 1))] [] G Q) ∧ (¬ (1 <<< ((sI G 66 16) &&& 31)) ≤ x7 → ((¬ (x7 &&& ((sI G 66 37) ^^^ (-1))) = 0 → EvI K mX12_looks 6 183 [(0, .ref 66), (1, .int x1), (2, .int x2), (3, .int x3), (4, .int x4), (5, .int x5), (6, .int x6), (7, .int x7)] [] G Q) ∧ ((x7 &&& ((sI G 66 37) ^^^ (-1))) = 0 → EvI K mX12_hang 1 0 [(0, .ref 66), (1, .int x7)] [] G (fun r1 G1 => ((r1 = 0 → EvI K mX12_looks 6 183 [(0, .ref 66), (1, .int x1), (2, .int x2), (3, .int x3), (4, .int x4), (5, .int x5), (6, .int x6), (7, .int x7)] [] G1 Q) ∧ (¬ r1 = 0 → ((¬ x4 = x1 → ((¬ x2 = 0 → EvI K mX12_looks 6 183 [(0, .ref 66), (1, .int x1), (2, .int x2), (3, .int x3), (4, .int (x4 + 1)), (5, .int x5), (6, .int x6), (7, .int x7)] [] G1 Q) ∧ (x2 = 0 → EvI K mX12_isJoining 2 0 [(0, .ref 66), (1, .int x7), (2, .int x3)] [] G1 (fun r2 G2 => ((r2 = 0 → EvI K mX12_looks 6 183 [(0, .ref 66), (1, .int x1), (2, .int x2), (3, .int x3), (4, .int (x4 + 1)), (5, .int x5), (6, .int x6), (7, .int x7)] [] G2 Q) ∧ (¬ r2 = 0 → EvI K mX12_tiesOf 0 0 [(0, .ref 66), (1, .int x7)] [] G2 (fun r3 G3 => EvI K mX12_termsOf 1 0 [(0, .ref 66), (1, .int x7)] [] G3 (fun r4 G4 => EvI K mX12_least 0 0 [(0, .int x5), (1, .int (r3 + r4))] [] G4 (fun r5 G5 => EvI K mX12_looks 6 183 [(0, .ref 66), (1, .int x1), (2, .int x2), (3, .int x3), (4, .int (x4 + 1)), (5, .int r5), (6, .int x6), (7, .int x7)] [] G5 Q))))))))) ∧ (x4 = x1 → ((¬ x2 = 0 → ((¬ x2 = 1 → Q x4 G1) ∧ (x2 = 1 → EvI K mX12_boundOf 2 0 [(0, .ref 66), (1, .int x6)] [] G1 (fun r6 G6 => Q r6 G6)))) ∧ (x2 = 0 → Q x5 G1)))))))))))) :
    EvI K mX12_looks 6 82 [(0, .ref 66), (1, .int x1), (2, .int x2), (3, .int x3), (4, .int x4), (5, .int x5), (6, .int x6), (7, .int x7)] [] G Q := by
  refine E_iload 7 dX12_looks_82 rfl ?_
  refine E_iconst (v := 1) dX12_looks_84 (by decide) ?_
  refine E_aload_n 0 dX12_looks_85 rfl rfl rfl ?_
  refine E_gI (v := sI G 66 16) fG_X12_223 rfl (lo_66 hL) rfl dX12_looks_86 ?_
  refine E_ishl dX12_looks_89 ?_
  refine E_icmp_ge (tgt := 193) dX12_looks_90 (by decide) (fun c => ?_) (fun c => ?_)
  · have hB := hB.1 c
    refine E_iinc (v := x6 + 1) (lv' := [(0, .ref 66), (1, .int x1), (2, .int x2), (3, .int x3), (4, .int x4), (5, .int x5), (6, .int (x6 + 1)), (7, .int x7)]) 6 dX12_looks_193 rfl rfl (by decide) rfl ?_
    refine E_goto (tgt := 56) dX12_looks_196 (by decide) ?_
    refine E_sub (lv' := [(0, .ref 66), (1, .int x1), (2, .int x2), (3, .int x3), (4, .int x4), (5, .int x5), (6, .int (x6 + 1))]) [0, 1, 2, 3, 4, 5, 6] rfl ?_
    exact EvI.tr hB rfl
  · have hB := hB.2 c
    refine E_iload 7 dX12_looks_93 rfl ?_
    refine E_aload_n 0 dX12_looks_95 rfl rfl rfl ?_
    refine E_gI (v := sI G 66 37) fG_X12_337 rfl (lo_66 hL) rfl dX12_looks_96 ?_
    refine E_iconst (v := (-1)) dX12_looks_99 (by decide) ?_
    refine E_ixor dX12_looks_100 ?_
    refine E_iand dX12_looks_101 ?_
    refine E_if_ne (tgt := 183) dX12_looks_102 (by decide) (fun c => ?_) (fun c => ?_)
    · have hB := hB.1 c
      exact EvI.tr hB rfl
    · have hB := hB.2 c
      refine E_aload_n 0 dX12_looks_105 rfl rfl rfl ?_
      refine E_iload 7 dX12_looks_106 rfl ?_
      refine E_cV (ci := 11) (as := [.int x7]) (st := []) cm_X12_hang cV_X12_357 ⟨_, _, rfl⟩ (by decide) (lo_66 hL) rfl rfl (by decide) (Nat.le_of_ble_eq_true rfl) (Nat.le_of_ble_eq_true rfl) dX12_looks_108 hB (fun r G1 hr => ?_)
      obtain ⟨r1, rfl, hE1, hB⟩ := hr
      have hL1 : Lay G1.2.2 := by rw [hE1]; exact hL
      have hE1 : G1.2.2 = G.2.2 := hE1
      show Ev K mX12_looks 6 111 [(0, .ref 66), (1, .int x1), (2, .int x2), (3, .int x3), (4, .int x4), (5, .int x5), (6, .int x6), (7, .int x7)] [.int r1] G1 _
      refine E_if_eq (tgt := 183) dX12_looks_111 (by decide) (fun c => ?_) (fun c => ?_)
      · have hB := hB.1 c
        exact EvI.tr hB hE1
      · have hB := hB.2 c
        refine E_iload 4 dX12_looks_114 rfl ?_
        refine E_iload_n 1 dX12_looks_116 rfl rfl ?_
        refine E_icmp_ne (tgt := 146) dX12_looks_117 (by decide) (fun c => ?_) (fun c => ?_)
        · have hB := hB.1 c
          refine E_iinc (v := x4 + 1) (lv' := [(0, .ref 66), (1, .int x1), (2, .int x2), (3, .int x3), (4, .int (x4 + 1)), (5, .int x5), (6, .int x6), (7, .int x7)]) 4 dX12_looks_146 rfl rfl (by decide) rfl ?_
          refine E_iload_n 2 dX12_looks_149 rfl rfl ?_
          refine E_if_ne (tgt := 183) dX12_looks_150 (by decide) (fun c => ?_) (fun c => ?_)
          · have hB := hB.1 c
            exact EvI.tr hB hE1
          · have hB := hB.2 c
            refine E_aload_n 0 dX12_looks_153 rfl rfl rfl ?_
            refine E_iload 7 dX12_looks_154 rfl ?_
            refine E_iload_n 3 dX12_looks_156 rfl rfl ?_
            refine E_cV (ci := 11) (as := [.int x7, .int x3]) (st := []) cm_X12_isJoining cV_X12_369 ⟨_, _, rfl⟩ (by decide) (lo_66 hL1) rfl rfl (by decide) (Nat.le_of_ble_eq_true rfl) (Nat.le_of_ble_eq_true rfl) dX12_looks_157 hB (fun r G2 hr => ?_)
            obtain ⟨r2, rfl, hE2, hB⟩ := hr
            have hL2 : Lay G2.2.2 := by rw [hE2]; exact hL1
            have hE2 : G2.2.2 = G.2.2 := hE2.trans hE1
            show Ev K mX12_looks 6 160 [(0, .ref 66), (1, .int x1), (2, .int x2), (3, .int x3), (4, .int (x4 + 1)), (5, .int x5), (6, .int x6), (7, .int x7)] [.int r2] G2 _
            refine E_if_eq (tgt := 183) dX12_looks_160 (by decide) (fun c => ?_) (fun c => ?_)
            · have hB := hB.1 c
              exact EvI.tr hB hE2
            · have hB := hB.2 c
              refine E_iload 5 dX12_looks_163 rfl ?_
              refine E_aload_n 0 dX12_looks_165 rfl rfl rfl ?_
              refine E_iload 7 dX12_looks_166 rfl ?_
              refine E_cV (ci := 11) (as := [.int x7]) (st := [.int x5]) cm_X12_tiesOf cV_X12_372 ⟨_, _, rfl⟩ (by decide) (lo_66 hL2) rfl rfl (by decide) (Nat.le_of_ble_eq_true rfl) (Nat.le_of_ble_eq_true rfl) dX12_looks_168 hB (fun r G3 hr => ?_)
              obtain ⟨r3, rfl, hE3, hB⟩ := hr
              have hL3 : Lay G3.2.2 := by rw [hE3]; exact hL2
              have hE3 : G3.2.2 = G.2.2 := hE3.trans hE2
              show Ev K mX12_looks 6 171 [(0, .ref 66), (1, .int x1), (2, .int x2), (3, .int x3), (4, .int (x4 + 1)), (5, .int x5), (6, .int x6), (7, .int x7)] [.int r3, .int x5] G3 _
              refine E_aload_n 0 dX12_looks_171 rfl rfl rfl ?_
              refine E_iload 7 dX12_looks_172 rfl ?_
              refine E_cV (ci := 11) (as := [.int x7]) (st := [.int r3, .int x5]) cm_X12_termsOf cV_X12_375 ⟨_, _, rfl⟩ (by decide) (lo_66 hL3) rfl rfl (by decide) (Nat.le_of_ble_eq_true rfl) (Nat.le_of_ble_eq_true rfl) dX12_looks_174 hB (fun r G4 hr => ?_)
              obtain ⟨r4, rfl, hE4, hB⟩ := hr
              have hL4 : Lay G4.2.2 := by rw [hE4]; exact hL3
              have hE4 : G4.2.2 = G.2.2 := hE4.trans hE3
              show Ev K mX12_looks 6 177 [(0, .ref 66), (1, .int x1), (2, .int x2), (3, .int x3), (4, .int (x4 + 1)), (5, .int x5), (6, .int x6), (7, .int x7)] [.int r4, .int r3, .int x5] G4 _
              refine E_iadd dX12_looks_177 ?_
              refine E_callS (as := [.int x5, .int (r3 + r4)]) (st := []) cm_X12_least cS_X12_314 rfl rfl (by decide) (Nat.le_of_ble_eq_true rfl) (Nat.le_of_ble_eq_true rfl) dX12_looks_178 hB (fun r G5 hr => ?_)
              obtain ⟨r5, rfl, hE5, hB⟩ := hr
              have hL5 : Lay G5.2.2 := by rw [hE5]; exact hL4
              have hE5 : G5.2.2 = G.2.2 := hE5.trans hE4
              show Ev K mX12_looks 6 181 [(0, .ref 66), (1, .int x1), (2, .int x2), (3, .int x3), (4, .int (x4 + 1)), (5, .int x5), (6, .int x6), (7, .int x7)] [.int r5] G5 _
              refine E_istore (lv' := [(0, .ref 66), (1, .int x1), (2, .int x2), (3, .int x3), (4, .int (x4 + 1)), (5, .int r5), (6, .int x6), (7, .int x7)]) dX12_looks_181 (by decide) rfl ?_
              exact EvI.tr hB hE5
        · have hB := hB.2 c
          refine E_iload_n 2 dX12_looks_120 rfl rfl ?_
          refine E_if_ne (tgt := 129) dX12_looks_121 (by decide) (fun c => ?_) (fun c => ?_)
          · have hB := hB.1 c
            refine E_iload_n 2 dX12_looks_129 rfl rfl ?_
            refine E_iconst (v := 1) dX12_looks_130 (by decide) ?_
            refine E_icmp_ne (tgt := 143) dX12_looks_131 (by decide) (fun c => ?_) (fun c => ?_)
            · have hB := hB.1 c
              refine E_iload 4 dX12_looks_143 rfl ?_
              exact E_iret rfl dX12_looks_145 ⟨_, rfl, hE1, hB⟩
            · have hB := hB.2 c
              refine E_aload_n 0 dX12_looks_134 rfl rfl rfl ?_
              refine E_iload 6 dX12_looks_135 rfl ?_
              refine E_cV (ci := 11) (as := [.int x6]) (st := []) cm_X12_boundOf cV_X12_394 ⟨_, _, rfl⟩ (by decide) (lo_66 hL1) rfl rfl (by decide) (Nat.le_of_ble_eq_true rfl) (Nat.le_of_ble_eq_true rfl) dX12_looks_137 hB (fun r G6 hr => ?_)
              obtain ⟨r6, rfl, hE6, hB⟩ := hr
              have hL6 : Lay G6.2.2 := by rw [hE6]; exact hL1
              have hE6 : G6.2.2 = G.2.2 := hE6.trans hE1
              show Ev K mX12_looks 6 140 [(0, .ref 66), (1, .int x1), (2, .int x2), (3, .int x3), (4, .int x4), (5, .int x5), (6, .int x6), (7, .int x7)] [.int r6] G6 _
              refine E_goto (tgt := 145) dX12_looks_140 (by decide) ?_
              exact E_iret rfl dX12_looks_145 ⟨_, rfl, hE6, hB⟩
          · have hB := hB.2 c
            refine E_iload 5 dX12_looks_124 rfl ?_
            refine E_goto (tgt := 145) dX12_looks_126 (by decide) ?_
            exact E_iret rfl dX12_looks_145 ⟨_, rfl, hE1, hB⟩

set_option maxRecDepth 20000 in
set_option maxHeartbeats 2000000 in
theorem kX12_looks_183 {K : KT} {G : St} {Q : Int32 → St → Prop} {x1 : Int32} {x2 : Int32} {x3 : Int32} {x4 : Int32} {x5 : Int32} {x6 : Int32} {x7 : Int32} (hL : Lay G.2.2) 
    (hB : EvI K mX12_nextOf 0 0 [(0, .int x7)] [] G (fun r1 G1 => EvI K mX12_looks 6 82 [(0, .ref 66), (1, .int x1), (2, .int x2), (3, .int x3), (4, .int x4), (5, .int x5), (6, .int x6), (7, .int r1)] [] G1 Q)) :
    EvI K mX12_looks 6 183 [(0, .ref 66), (1, .int x1), (2, .int x2), (3, .int x3), (4, .int x4), (5, .int x5), (6, .int x6), (7, .int x7)] [] G Q := by
  refine E_iload 7 dX12_looks_183 rfl ?_
  refine E_callS (as := [.int x7]) (st := []) cm_X12_nextOf cS_X12_378 rfl rfl (by decide) (Nat.le_of_ble_eq_true rfl) (Nat.le_of_ble_eq_true rfl) dX12_looks_185 hB (fun r G1 hr => ?_)
  obtain ⟨r1, rfl, hE1, hB⟩ := hr
  have hL1 : Lay G1.2.2 := by rw [hE1]; exact hL
  have hE1 : G1.2.2 = G.2.2 := hE1
  show Ev K mX12_looks 6 188 [(0, .ref 66), (1, .int x1), (2, .int x2), (3, .int x3), (4, .int x4), (5, .int x5), (6, .int x6), (7, .int x7)] [.int r1] G1 _
  refine E_istore (lv' := [(0, .ref 66), (1, .int x1), (2, .int x2), (3, .int x3), (4, .int x4), (5, .int x5), (6, .int x6), (7, .int r1)]) dX12_looks_188 (by decide) rfl ?_
  refine E_goto (tgt := 82) dX12_looks_190 (by decide) ?_
  exact EvI.tr hB hE1

set_option maxRecDepth 20000 in
set_option maxHeartbeats 2000000 in
theorem kX12_looks_199 {K : KT} {G : St} {Q : Int32 → St → Prop} {x2 : Int32} {x4 : Int32} {x5 : Int32} (hL : Lay G.2.2) 
    (hB : ((¬ x2 = 0 → ((¬ x2 = 1 → Q x4 G) ∧ (x2 = 1 → Q (-1) G))) ∧ (x2 = 0 → Q x5 G))) :
    EvI K mX12_looks 6 199 [(2, .int x2), (4, .int x4), (5, .int x5)] [] G Q := by
  refine E_iload_n 0 dX12_looks_199 rfl rfl ?_
  refine E_if_ne (tgt := 208) dX12_looks_200 (by decide) (fun c => ?_) (fun c => ?_)
  · have hB := hB.1 c
    refine E_iload_n 0 dX12_looks_208 rfl rfl ?_
    refine E_iconst (v := 1) dX12_looks_209 (by decide) ?_
    refine E_icmp_ne (tgt := 217) dX12_looks_210 (by decide) (fun c => ?_) (fun c => ?_)
    · have hB := hB.1 c
      refine E_iload 1 dX12_looks_217 rfl ?_
      exact E_iret rfl dX12_looks_219 ⟨_, rfl, rfl, hB⟩
    · have hB := hB.2 c
      refine E_iconst (v := (-1)) dX12_looks_213 (by decide) ?_
      refine E_goto (tgt := 219) dX12_looks_214 (by decide) ?_
      exact E_iret rfl dX12_looks_219 ⟨_, rfl, rfl, hB⟩
  · have hB := hB.2 c
    refine E_iload 2 dX12_looks_203 rfl ?_
    refine E_goto (tgt := 219) dX12_looks_205 (by decide) ?_
    exact E_iret rfl dX12_looks_219 ⟨_, rfl, rfl, hB⟩

set_option maxRecDepth 20000 in
set_option maxHeartbeats 2000000 in
theorem kX12_isQuestion_0 {K : KT} {G : St} {Q : Int32 → St → Prop} {x1 : Int32} (hL : Lay G.2.2) 
    (hB : EvV K mX12_findAll 5 0 [(0, .ref 66)] [] G (fun G1 => ((x1 < 0 → Q 0 G1) ∧ (¬ x1 < 0 → (((sI G1 66 43) ≤ x1 → Q 0 G1) ∧ (¬ (sI G1 66 43) ≤ x1 → Q 1 G1)))))) :
    EvI K mX12_isQuestion 6 0 [(0, .ref 66), (1, .int x1)] [] G Q := by
  refine E_aload_n 0 dX12_isQuestion_0 rfl rfl rfl ?_
  refine E_cV (ci := 11) (as := []) (st := []) cm_X12_findAll cV_X12_271 ⟨_, _, rfl⟩ (by decide) (lo_66 hL) rfl rfl (by decide) (Nat.le_of_ble_eq_true rfl) (Nat.le_of_ble_eq_true rfl) dX12_isQuestion_1 hB (fun r G1 hr => ?_)
  obtain ⟨rfl, hE1, hB⟩ := hr
  have hL1 : Lay G1.2.2 := by rw [hE1]; exact hL
  have hE1 : G1.2.2 = G.2.2 := hE1
  show Ev K mX12_isQuestion 6 4 [(0, .ref 66), (1, .int x1)] [] G1 _
  refine E_iload_n 1 dX12_isQuestion_4 rfl rfl ?_
  refine E_if_lt (tgt := 20) dX12_isQuestion_5 (by decide) (fun c => ?_) (fun c => ?_)
  · have hB := hB.1 c
    refine E_iconst (v := 0) dX12_isQuestion_20 (by decide) ?_
    exact E_zret rfl (Or.inl rfl) dX12_isQuestion_21 ⟨_, rfl, hE1, hB⟩
  · have hB := hB.2 c
    refine E_iload_n 1 dX12_isQuestion_8 rfl rfl ?_
    refine E_aload_n 0 dX12_isQuestion_9 rfl rfl rfl ?_
    refine E_gI (v := sI G1 66 43) fG_X12_397 rfl (lo_66 hL1) rfl dX12_isQuestion_10 ?_
    refine E_icmp_ge (tgt := 20) dX12_isQuestion_13 (by decide) (fun c => ?_) (fun c => ?_)
    · have hB := hB.1 c
      refine E_iconst (v := 0) dX12_isQuestion_20 (by decide) ?_
      exact E_zret rfl (Or.inl rfl) dX12_isQuestion_21 ⟨_, rfl, hE1, hB⟩
    · have hB := hB.2 c
      refine E_iconst (v := 1) dX12_isQuestion_16 (by decide) ?_
      refine E_goto (tgt := 21) dX12_isQuestion_17 (by decide) ?_
      exact E_zret rfl (Or.inr rfl) dX12_isQuestion_21 ⟨_, rfl, hE1, hB⟩

set_option maxRecDepth 20000 in
set_option maxHeartbeats 2000000 in
theorem kX12_tablesOf_0 {K : KT} {G : St} {Q : Int32 → St → Prop} {x1 : Int32} (hL : Lay G.2.2) 
    (hB : vp_in x1 60000 ∧ Q ((sI G 96 (Int32.toNatClampNeg x1)) / 625) G) :
    EvI K mX12_tablesOf 0 0 [(0, .ref 66), (1, .int x1)] [] G Q := by
  refine E_aload_n 0 dX12_tablesOf_0 rfl rfl rfl ?_
  refine E_gR (j := 96) fG_X12_128 rfl (lo_66 hL) (lr_66_46 hL) (by decide) dX12_tablesOf_1 ?_
  refine E_iload_n 1 dX12_tablesOf_4 rfl rfl ?_
  obtain ⟨qq1, hB⟩ := hB
  refine E_aI (p := Int32.toNatClampNeg x1) (v := sI G 96 (Int32.toNatClampNeg x1)) (la_96 hL) qq1 rfl rfl dX12_tablesOf_5 ?_
  refine E_sipush (v := 625) dX12_tablesOf_6 (by decide) ?_
  refine E_idiv dX12_tablesOf_9 (by decide) ?_
  exact E_iret rfl dX12_tablesOf_10 ⟨_, rfl, rfl, hB⟩

set_option maxRecDepth 20000 in
set_option maxHeartbeats 2000000 in
theorem kX12_rankOf_0 {K : KT} {G : St} {Q : Int32 → St → Prop} {x1 : Int32} (hL : Lay G.2.2) 
    (hB : EvI K mX12_rankOf 1 4 [(0, .ref 66), (1, .int x1), (2, .int 0), (3, .int 0)] [] G Q) :
    EvI K mX12_rankOf 1 0 [(0, .ref 66), (1, .int x1)] [] G Q := by
  refine E_iconst (v := 0) dX12_rankOf_0 (by decide) ?_
  refine E_istore_n (lv' := [(0, .ref 66), (1, .int x1), (2, .int 0)]) dX12_rankOf_1 rfl (by decide) rfl ?_
  refine E_iconst (v := 0) dX12_rankOf_2 (by decide) ?_
  refine E_istore_n (lv' := [(0, .ref 66), (1, .int x1), (2, .int 0), (3, .int 0)]) dX12_rankOf_3 rfl (by decide) rfl ?_
  exact EvI.tr hB rfl

set_option maxRecDepth 20000 in
set_option maxHeartbeats 2000000 in
theorem kX12_rankOf_4 {K : KT} {G : St} {Q : Int32 → St → Prop} {x1 : Int32} {x2 : Int32} {x3 : Int32} (hL : Lay G.2.2) 
    (hB : (((sI G 66 43) ≤ x3 → Q x2 G) ∧ (¬ (sI G 66 43) ≤ x3 → EvI K mX12_tablesOf 0 0 [(0, .ref 66), (1, .int x3)] [] G (fun r1 G1 => vp_in r1 7776 ∧ EvI K mX12_tablesOf 0 0 [(0, .ref 66), (1, .int x1)] [] G1 (fun r3 G3 => vp_in r3 7776 ∧ ((0 < ((sI G1 99 (Int32.toNatClampNeg r1)) - (sI G3 99 (Int32.toNatClampNeg r3))) → EvI K mX12_rankOf 1 56 [(0, .ref 66), (1, .int x1), (3, .int x3)] [.int 1, .int x2] G3 Q) ∧ (¬ 0 < ((sI G1 99 (Int32.toNatClampNeg r1)) - (sI G3 99 (Int32.toNatClampNeg r3))) → ((¬ ((sI G1 99 (Int32.toNatClampNeg r1)) - (sI G3 99 (Int32.toNatClampNeg r3))) = 0 → EvI K mX12_rankOf 1 55 [(0, .ref 66), (1, .int x1), (3, .int x3)] [.int x2] G3 Q) ∧ (((sI G1 99 (Int32.toNatClampNeg r1)) - (sI G3 99 (Int32.toNatClampNeg r3))) = 0 → ((x1 ≤ x3 → EvI K mX12_rankOf 1 55 [(0, .ref 66), (1, .int x1), (3, .int x3)] [.int x2] G3 Q) ∧ (¬ x1 ≤ x3 → EvI K mX12_rankOf 1 56 [(0, .ref 66), (1, .int x1), (3, .int x3)] [.int 1, .int x2] G3 Q))))))))))) :
    EvI K mX12_rankOf 1 4 [(0, .ref 66), (1, .int x1), (2, .int x2), (3, .int x3)] [] G Q := by
  refine E_iload_n 3 dX12_rankOf_4 rfl rfl ?_
  refine E_aload_n 0 dX12_rankOf_5 rfl rfl rfl ?_
  refine E_gI (v := sI G 66 43) fG_X12_397 rfl (lo_66 hL) rfl dX12_rankOf_6 ?_
  refine E_icmp_ge (tgt := 64) dX12_rankOf_9 (by decide) (fun c => ?_) (fun c => ?_)
  · have hB := hB.1 c
    refine E_iload_n 2 dX12_rankOf_64 rfl rfl ?_
    exact E_iret rfl dX12_rankOf_65 ⟨_, rfl, rfl, hB⟩
  · have hB := hB.2 c
    refine E_aload_n 0 dX12_rankOf_12 rfl rfl rfl ?_
    refine E_gR (j := 99) fG_X12_137 rfl (lo_66 hL) (lr_66_49 hL) (by decide) dX12_rankOf_13 ?_
    refine E_aload_n 0 dX12_rankOf_16 rfl rfl rfl ?_
    refine E_iload_n 3 dX12_rankOf_17 rfl rfl ?_
    refine E_cV (ci := 11) (as := [.int x3]) (st := [.ref 99]) cm_X12_tablesOf cV_X12_400 ⟨_, _, rfl⟩ (by decide) (lo_66 hL) rfl rfl (by decide) (Nat.le_of_ble_eq_true rfl) (Nat.le_of_ble_eq_true rfl) dX12_rankOf_18 hB (fun r G1 hr => ?_)
    obtain ⟨r1, rfl, hE1, hB⟩ := hr
    have hL1 : Lay G1.2.2 := by rw [hE1]; exact hL
    have hE1 : G1.2.2 = G.2.2 := hE1
    show Ev K mX12_rankOf 1 21 [(0, .ref 66), (1, .int x1), (2, .int x2), (3, .int x3)] [.int r1, .ref 99] G1 _
    obtain ⟨qq2, hB⟩ := hB
    refine E_aI (p := Int32.toNatClampNeg r1) (v := sI G1 99 (Int32.toNatClampNeg r1)) (la_99 hL1) qq2 rfl rfl dX12_rankOf_21 ?_
    refine E_aload_n 0 dX12_rankOf_22 rfl rfl rfl ?_
    refine E_gR (j := 99) fG_X12_137 rfl (lo_66 hL1) (lr_66_49 hL1) (by decide) dX12_rankOf_23 ?_
    refine E_aload_n 0 dX12_rankOf_26 rfl rfl rfl ?_
    refine E_iload_n 1 dX12_rankOf_27 rfl rfl ?_
    refine E_cV (ci := 11) (as := [.int x1]) (st := [.ref 99, .int (sI G1 99 (Int32.toNatClampNeg r1))]) cm_X12_tablesOf cV_X12_400 ⟨_, _, rfl⟩ (by decide) (lo_66 hL1) rfl rfl (by decide) (Nat.le_of_ble_eq_true rfl) (Nat.le_of_ble_eq_true rfl) dX12_rankOf_28 hB (fun r G3 hr => ?_)
    obtain ⟨r3, rfl, hE3, hB⟩ := hr
    have hL3 : Lay G3.2.2 := by rw [hE3]; exact hL1
    have hE3 : G3.2.2 = G.2.2 := hE3.trans hE1
    show Ev K mX12_rankOf 1 31 [(0, .ref 66), (1, .int x1), (2, .int x2), (3, .int x3)] [.int r3, .ref 99, .int (sI G1 99 (Int32.toNatClampNeg r1))] G3 _
    obtain ⟨qq4, hB⟩ := hB
    refine E_aI (p := Int32.toNatClampNeg r3) (v := sI G3 99 (Int32.toNatClampNeg r3)) (la_99 hL3) qq4 rfl rfl dX12_rankOf_31 ?_
    refine E_isub dX12_rankOf_32 ?_
    refine E_istore (lv' := [(0, .ref 66), (1, .int x1), (2, .int x2), (3, .int x3), (4, .int ((sI G1 99 (Int32.toNatClampNeg r1)) - (sI G3 99 (Int32.toNatClampNeg r3))))]) dX12_rankOf_33 (by decide) rfl ?_
    refine E_iload_n 2 dX12_rankOf_35 rfl rfl ?_
    refine E_iload 4 dX12_rankOf_36 rfl ?_
    refine E_if_gt (tgt := 51) dX12_rankOf_38 (by decide) (fun c => ?_) (fun c => ?_)
    · have hB := hB.1 c
      refine E_iconst (v := 1) dX12_rankOf_51 (by decide) ?_
      refine E_goto (tgt := 56) dX12_rankOf_52 (by decide) ?_
      refine E_sub (lv' := [(0, .ref 66), (1, .int x1), (3, .int x3)]) [0, 1, 3] rfl ?_
      exact EvI.tr hB hE3
    · have hB := hB.2 c
      refine E_iload 4 dX12_rankOf_41 rfl ?_
      refine E_if_ne (tgt := 55) dX12_rankOf_43 (by decide) (fun c => ?_) (fun c => ?_)
      · have hB := hB.1 c
        refine E_sub (lv' := [(0, .ref 66), (1, .int x1), (3, .int x3)]) [0, 1, 3] rfl ?_
        exact EvI.tr hB hE3
      · have hB := hB.2 c
        refine E_iload_n 3 dX12_rankOf_46 rfl rfl ?_
        refine E_iload_n 1 dX12_rankOf_47 rfl rfl ?_
        refine E_icmp_ge (tgt := 55) dX12_rankOf_48 (by decide) (fun c => ?_) (fun c => ?_)
        · have hB := hB.1 c
          refine E_sub (lv' := [(0, .ref 66), (1, .int x1), (3, .int x3)]) [0, 1, 3] rfl ?_
          exact EvI.tr hB hE3
        · have hB := hB.2 c
          refine E_iconst (v := 1) dX12_rankOf_51 (by decide) ?_
          refine E_goto (tgt := 56) dX12_rankOf_52 (by decide) ?_
          refine E_sub (lv' := [(0, .ref 66), (1, .int x1), (3, .int x3)]) [0, 1, 3] rfl ?_
          exact EvI.tr hB hE3

set_option maxRecDepth 20000 in
set_option maxHeartbeats 2000000 in
theorem kX12_rankOf_55 {K : KT} {G : St} {Q : Int32 → St → Prop} {x1 : Int32} {x3 : Int32} {xs0 : Int32} (hL : Lay G.2.2) 
    (hB : EvI K mX12_rankOf 1 56 [(0, .ref 66), (1, .int x1), (3, .int x3)] [.int 0, .int xs0] G Q) :
    EvI K mX12_rankOf 1 55 [(0, .ref 66), (1, .int x1), (3, .int x3)] [.int xs0] G Q := by
  refine E_iconst (v := 0) dX12_rankOf_55 (by decide) ?_
  exact EvI.tr hB rfl

set_option maxRecDepth 20000 in
set_option maxHeartbeats 2000000 in
theorem kX12_rankOf_56 {K : KT} {G : St} {Q : Int32 → St → Prop} {x1 : Int32} {x3 : Int32} {xs0 : Int32} {xs1 : Int32} (hL : Lay G.2.2) 
    (hB : EvI K mX12_rankOf 1 4 [(0, .ref 66), (1, .int x1), (2, .int (xs0 + xs1)), (3, .int (x3 + 1))] [] G Q) :
    EvI K mX12_rankOf 1 56 [(0, .ref 66), (1, .int x1), (3, .int x3)] [.int xs1, .int xs0] G Q := by
  refine E_iadd dX12_rankOf_56 ?_
  refine E_istore_n (lv' := [(0, .ref 66), (1, .int x1), (2, .int (xs0 + xs1)), (3, .int x3)]) dX12_rankOf_57 rfl (by decide) rfl ?_
  refine E_iinc (v := x3 + 1) (lv' := [(0, .ref 66), (1, .int x1), (2, .int (xs0 + xs1)), (3, .int (x3 + 1))]) 3 dX12_rankOf_58 rfl rfl (by decide) rfl ?_
  refine E_goto (tgt := 4) dX12_rankOf_61 (by decide) ?_
  exact EvI.tr hB rfl

set_option maxRecDepth 20000 in
set_option maxHeartbeats 2000000 in
theorem kX12_says_0 {K : KT} {G : St} {Q : St → Prop} {x1 : Int32} (hL : Lay G.2.2) 
    (hB : vp_in (sI G 66 50) 300 ∧ Q (uI (uI G 100 (Int32.toNatClampNeg (sI G 66 50)) x1) 66 50 ((sI G 66 50) + 1))) :
    EvV K mX12_says 0 0 [(0, .ref 66), (1, .int x1)] [] G Q := by
  refine E_aload_n 0 dX12_says_0 rfl rfl rfl ?_
  refine E_gR (j := 100) fG_X12_140 rfl (lo_66 hL) (lr_66_51 hL) (by decide) dX12_says_1 ?_
  refine E_aload_n 0 dX12_says_4 rfl rfl rfl ?_
  refine E_gI (v := sI G 66 50) fG_X12_403 rfl (lo_66 hL) rfl dX12_says_5 ?_
  refine E_iload_n 1 dX12_says_8 rfl rfl ?_
  obtain ⟨qq1, hB⟩ := hB
  refine E_sI (p := Int32.toNatClampNeg (sI G 66 50)) (la_100 hL) qq1 rfl dX12_says_9 ?_
  refine E_aload_n 0 dX12_says_10 rfl rfl rfl ?_
  refine E_dup dX12_says_11 rfl ?_
  refine E_gI (v := sI G 66 50) fG_X12_403 rfl (lo_66 hL) rfl dX12_says_12 ?_
  refine E_iconst (v := 1) dX12_says_15 (by decide) ?_
  refine E_iadd dX12_says_16 ?_
  refine E_pI fP_X12_403 rfl (lo_66 hL) dX12_says_17 ?_
  exact E_vret rfl dX12_says_20 ⟨rfl, rfl, hB⟩

set_option maxRecDepth 20000 in
set_option maxHeartbeats 2000000 in
theorem kX12_saysWord_0 {K : KT} {G : St} {Q : St → Prop} {y1 : Int64} (hL : Lay G.2.2) 
    (hB : EvI K mX12_lettersOf 0 0 [(0, .long y1)] [] G (fun r1 G1 => EvV K mX12_saysWord 1 7 [(0, .ref 66), (1, .long y1), (3, .int (r1 - 1))] [] G1 Q)) :
    EvV K mX12_saysWord 1 0 [(0, .ref 66), (1, .long y1)] [] G Q := by
  refine E_lload_n 1 dX12_saysWord_0 rfl rfl ?_
  refine E_callS (as := [.long y1]) (st := []) cm_X12_lettersOf cS_X12_297 rfl rfl (by decide) (Nat.le_of_ble_eq_true rfl) (Nat.le_of_ble_eq_true rfl) dX12_saysWord_1 hB (fun r G1 hr => ?_)
  obtain ⟨r1, rfl, hE1, hB⟩ := hr
  have hL1 : Lay G1.2.2 := by rw [hE1]; exact hL
  have hE1 : G1.2.2 = G.2.2 := hE1
  show Ev K mX12_saysWord 1 4 [(0, .ref 66), (1, .long y1)] [.int r1] G1 _
  refine E_iconst (v := 1) dX12_saysWord_4 (by decide) ?_
  refine E_isub dX12_saysWord_5 ?_
  refine E_istore_n (lv' := [(0, .ref 66), (1, .long y1), (3, .int (r1 - 1))]) dX12_saysWord_6 rfl (by decide) rfl ?_
  exact EvV.tr hB hE1

set_option maxRecDepth 20000 in
set_option maxHeartbeats 2000000 in
theorem kX12_saysWord_7 {K : KT} {G : St} {Q : St → Prop} {y1 : Int64} {x3 : Int32} (hL : Lay G.2.2) 
    (hB : ((x3 < 0 → Q G) ∧ (¬ x3 < 0 → EvL K mX12_letter 0 0 [(0, .long y1), (2, .int x3)] [] G (fun r1 G1 => EvV K mX12_says 0 0 [(0, .ref 66), (1, .int ((Int64.toInt32 r1) + 96))] [] G1 (fun G2 => EvV K mX12_saysWord 1 7 [(0, .ref 66), (1, .long y1), (3, .int (x3 + (-1)))] [] G2 Q))))) :
    EvV K mX12_saysWord 1 7 [(0, .ref 66), (1, .long y1), (3, .int x3)] [] G Q := by
  refine E_iload_n 2 dX12_saysWord_7 rfl rfl ?_
  refine E_if_lt (tgt := 30) dX12_saysWord_8 (by decide) (fun c => ?_) (fun c => ?_)
  · have hB := hB.1 c
    exact E_vret rfl dX12_saysWord_30 ⟨rfl, rfl, hB⟩
  · have hB := hB.2 c
    refine E_aload_n 0 dX12_saysWord_11 rfl rfl rfl ?_
    refine E_lload_n 1 dX12_saysWord_12 rfl rfl ?_
    refine E_iload_n 2 dX12_saysWord_13 rfl rfl ?_
    refine E_callS (as := [.long y1, .int x3]) (st := [.ref 66]) cm_X12_letter cS_X12_301 rfl rfl (by decide) (Nat.le_of_ble_eq_true rfl) (Nat.le_of_ble_eq_true rfl) dX12_saysWord_14 hB (fun r G1 hr => ?_)
    obtain ⟨r1, rfl, hE1, hB⟩ := hr
    have hL1 : Lay G1.2.2 := by rw [hE1]; exact hL
    have hE1 : G1.2.2 = G.2.2 := hE1
    show Ev K mX12_saysWord 1 17 [(0, .ref 66), (1, .long y1), (3, .int x3)] [.long r1, .ref 66] G1 _
    refine E_l2i dX12_saysWord_17 rfl ?_
    refine E_bipush (v := 96) dX12_saysWord_18 (by decide) ?_
    refine E_iadd dX12_saysWord_20 ?_
    refine E_cV (ci := 11) (as := [.int ((Int64.toInt32 r1) + 96)]) (st := []) cm_X12_says cV_X12_406 ⟨_, _, rfl⟩ (by decide) (lo_66 hL1) rfl rfl (by decide) (Nat.le_of_ble_eq_true rfl) (Nat.le_of_ble_eq_true rfl) dX12_saysWord_21 hB (fun r G2 hr => ?_)
    obtain ⟨rfl, hE2, hB⟩ := hr
    have hL2 : Lay G2.2.2 := by rw [hE2]; exact hL1
    have hE2 : G2.2.2 = G.2.2 := hE2.trans hE1
    show Ev K mX12_saysWord 1 24 [(0, .ref 66), (1, .long y1), (3, .int x3)] [] G2 _
    refine E_iinc (v := x3 + (-1)) (lv' := [(0, .ref 66), (1, .long y1), (3, .int (x3 + (-1)))]) 2 dX12_saysWord_24 rfl rfl (by decide) rfl ?_
    refine E_goto (tgt := 7) dX12_saysWord_27 (by decide) ?_
    exact EvV.tr hB hE2

set_option maxRecDepth 20000 in
set_option maxHeartbeats 2000000 in
theorem kX12_saysNumber_0 {K : KT} {G : St} {Q : St → Prop} {y1 : Int64} (hL : Lay G.2.2) 
    (hB : EvV K mX12_saysNumber 1 4 [(0, .ref 66), (1, .long y1), (3, .long 1000)] [] G Q) :
    EvV K mX12_saysNumber 1 0 [(0, .ref 66), (1, .long y1)] [] G Q := by
  refine E_ldc2 (v := 1000) tm_1809 dX12_saysNumber_0 ?_
  refine E_lstore_n (lv' := [(0, .ref 66), (1, .long y1), (3, .long 1000)]) dX12_saysNumber_3 rfl (by decide) rfl ?_
  exact EvV.tr hB rfl

set_option maxRecDepth 20000 in
set_option maxHeartbeats 2000000 in
theorem kX12_saysNumber_4 {K : KT} {G : St} {Q : St → Prop} {y1 : Int64} {y3 : Int64} (hL : Lay G.2.2) 
    (hB : ((¬ 0 < y3 → Q G) ∧ (0 < y3 → ((¬ y1 < y3 → EvV K mX12_saysNumber 1 22 [(0, .ref 66), (1, .long y1), (3, .long y3)] [] G Q) ∧ (y1 < y3 → ((¬ y3 = 1 → EvV K mX12_saysNumber 1 37 [(0, .ref 66), (1, .long y1), (3, .long y3)] [] G Q) ∧ (y3 = 1 → EvV K mX12_saysNumber 1 22 [(0, .ref 66), (1, .long y1), (3, .long y3)] [] G Q))))))) :
    EvV K mX12_saysNumber 1 4 [(0, .ref 66), (1, .long y1), (3, .long y3)] [] G Q := by
  refine E_lload_n 2 dX12_saysNumber_4 rfl rfl ?_
  refine E_lconst (v := 0) dX12_saysNumber_5 (by decide) ?_
  refine E_lcmp dX12_saysNumber_6 ?_
  refine E_if_le (tgt := 46) dX12_saysNumber_7 (by decide) (fun c => ?_) (fun c => ?_)
  · have hB := hB.1 ((fun q => absurd ((lgc_gt y3 0).mpr q) (Int32.not_lt.mpr c)))
    exact E_vret rfl dX12_saysNumber_46 ⟨rfl, rfl, hB⟩
  · have hB := hB.2 ((lgc_gt y3 0).mp (Int32.not_le.mp c))
    refine E_lload_n 1 dX12_saysNumber_10 rfl rfl ?_
    refine E_lload_n 2 dX12_saysNumber_11 rfl rfl ?_
    refine E_lcmp dX12_saysNumber_12 ?_
    refine E_if_ge (tgt := 22) dX12_saysNumber_13 (by decide) (fun c => ?_) (fun c => ?_)
    · have hB := hB.1 ((fun q => absurd ((lgc_lt y1 y3).mpr q) (Int32.not_lt.mpr c)))
      exact EvV.tr hB rfl
    · have hB := hB.2 ((lgc_lt y1 y3).mp (Int32.not_le.mp c))
      refine E_lload_n 2 dX12_saysNumber_16 rfl rfl ?_
      refine E_lconst (v := 1) dX12_saysNumber_17 (by decide) ?_
      refine E_lcmp dX12_saysNumber_18 ?_
      refine E_if_ne (tgt := 37) dX12_saysNumber_19 (by decide) (fun c => ?_) (fun c => ?_)
      · have hB := hB.1 ((fun q => c ((lgc_eq y3 1).mpr q)))
        exact EvV.tr hB rfl
      · have hB := hB.2 ((lgc_eq y3 1).mp c)
        exact EvV.tr hB rfl

set_option maxRecDepth 20000 in
set_option maxHeartbeats 2000000 in
theorem kX12_saysNumber_22 {K : KT} {G : St} {Q : St → Prop} {y1 : Int64} {y3 : Int64} (hL : Lay G.2.2) 
    (hB : (¬ y3 = 0) ∧ EvV K mX12_says 0 0 [(0, .ref 66), (1, .int ((Int64.toInt32 ((y1 / y3) - (y1 / y3) / 10 * 10)) + 48))] [] G (fun G2 => EvV K mX12_saysNumber 1 37 [(0, .ref 66), (1, .long y1), (3, .long y3)] [] G2 Q)) :
    EvV K mX12_saysNumber 1 22 [(0, .ref 66), (1, .long y1), (3, .long y3)] [] G Q := by
  refine E_aload_n 0 dX12_saysNumber_22 rfl rfl rfl ?_
  refine E_lload_n 1 dX12_saysNumber_23 rfl rfl ?_
  refine E_lload_n 2 dX12_saysNumber_24 rfl rfl ?_
  obtain ⟨qq1, hB⟩ := hB
  refine E_ldiv dX12_saysNumber_25 qq1 ?_
  refine E_ldc2 (v := 10) tm_1502 dX12_saysNumber_26 ?_
  refine E_lrem dX12_saysNumber_29 (by decide) ?_
  refine E_l2i dX12_saysNumber_30 rfl ?_
  refine E_bipush (v := 48) dX12_saysNumber_31 (by decide) ?_
  refine E_iadd dX12_saysNumber_33 ?_
  refine E_cV (ci := 11) (as := [.int ((Int64.toInt32 ((y1 / y3) - (y1 / y3) / 10 * 10)) + 48)]) (st := []) cm_X12_says cV_X12_406 ⟨_, _, rfl⟩ (by decide) (lo_66 hL) rfl rfl (by decide) (Nat.le_of_ble_eq_true rfl) (Nat.le_of_ble_eq_true rfl) dX12_saysNumber_34 hB (fun r G2 hr => ?_)
  obtain ⟨rfl, hE2, hB⟩ := hr
  have hL2 : Lay G2.2.2 := by rw [hE2]; exact hL
  have hE2 : G2.2.2 = G.2.2 := hE2
  show Ev K mX12_saysNumber 1 37 [(0, .ref 66), (1, .long y1), (3, .long y3)] [] G2 _
  exact EvV.tr hB hE2

set_option maxRecDepth 20000 in
set_option maxHeartbeats 2000000 in
theorem kX12_saysNumber_37 {K : KT} {G : St} {Q : St → Prop} {y1 : Int64} {y3 : Int64} (hL : Lay G.2.2) 
    (hB : EvV K mX12_saysNumber 1 4 [(0, .ref 66), (1, .long y1), (3, .long (y3 / 10))] [] G Q) :
    EvV K mX12_saysNumber 1 37 [(0, .ref 66), (1, .long y1), (3, .long y3)] [] G Q := by
  refine E_lload_n 2 dX12_saysNumber_37 rfl rfl ?_
  refine E_ldc2 (v := 10) tm_1502 dX12_saysNumber_38 ?_
  refine E_ldiv dX12_saysNumber_41 (by decide) ?_
  refine E_lstore_n (lv' := [(0, .ref 66), (1, .long y1), (3, .long (y3 / 10))]) dX12_saysNumber_42 rfl (by decide) rfl ?_
  refine E_goto (tgt := 4) dX12_saysNumber_43 (by decide) ?_
  exact EvV.tr hB rfl

set_option maxRecDepth 20000 in
set_option maxHeartbeats 2000000 in
theorem kX12_saysSentence_0 {K : KT} {G : St} {Q : St → Prop} {x1 : Int32} (hL : Lay G.2.2) 
    (hB : EvI K mX12_tablesOf 0 0 [(0, .ref 66), (1, .int x1)] [] (uI G 66 50 0) (fun r1 G1 => EvV K mX12_saysSentence 2 16 [(0, .ref 66), (1, .int x1), (2, .int 1), (3, .int r1), (4, .int 0)] [] G1 Q)) :
    EvV K mX12_saysSentence 2 0 [(0, .ref 66), (1, .int x1)] [] G Q := by
  refine E_aload_n 0 dX12_saysSentence_0 rfl rfl rfl ?_
  refine E_iconst (v := 0) dX12_saysSentence_1 (by decide) ?_
  refine E_pI fP_X12_403 rfl (lo_66 hL) dX12_saysSentence_2 ?_
  refine E_iconst (v := 1) dX12_saysSentence_5 (by decide) ?_
  refine E_istore_n (lv' := [(0, .ref 66), (1, .int x1), (2, .int 1)]) dX12_saysSentence_6 rfl (by decide) rfl ?_
  refine E_aload_n 0 dX12_saysSentence_7 rfl rfl rfl ?_
  refine E_iload_n 1 dX12_saysSentence_8 rfl rfl ?_
  refine E_cV (ci := 11) (as := [.int x1]) (st := []) cm_X12_tablesOf cV_X12_400 ⟨_, _, rfl⟩ (by decide) (lo_66 hL) rfl rfl (by decide) (Nat.le_of_ble_eq_true rfl) (Nat.le_of_ble_eq_true rfl) dX12_saysSentence_9 hB (fun r G1 hr => ?_)
  obtain ⟨r1, rfl, hE1, hB⟩ := hr
  have hL1 : Lay G1.2.2 := by rw [hE1]; exact hL
  have hE1 : G1.2.2 = G.2.2 := hE1
  show Ev K mX12_saysSentence 2 12 [(0, .ref 66), (1, .int x1), (2, .int 1)] [.int r1] G1 _
  refine E_istore_n (lv' := [(0, .ref 66), (1, .int x1), (2, .int 1), (3, .int r1)]) dX12_saysSentence_12 rfl (by decide) rfl ?_
  refine E_iconst (v := 0) dX12_saysSentence_13 (by decide) ?_
  refine E_istore (lv' := [(0, .ref 66), (1, .int x1), (2, .int 1), (3, .int r1), (4, .int 0)]) dX12_saysSentence_14 (by decide) rfl ?_
  exact EvV.tr hB hE1

set_option maxRecDepth 20000 in
set_option maxHeartbeats 2000000 in
theorem kX12_saysSentence_16 {K : KT} {G : St} {Q : St → Prop} {x1 : Int32} {x2 : Int32} {x3 : Int32} {x4 : Int32} (hL : Lay G.2.2) 
    (hB : ((5 ≤ x4 → EvV K mX12_says 0 0 [(0, .ref 66), (1, .int 32)] [] G (fun G1 => EvV K mX12_says 0 0 [(0, .ref 66), (1, .int 58)] [] G1 (fun G2 => EvV K mX12_saysSentence 2 101 [(0, .ref 66), (1, .int x1), (4, .int 0)] [] G2 Q))) ∧ (¬ 5 ≤ x4 → EvV K mX12_saysSentence 2 25 [(0, .ref 66), (1, .int x1), (2, .int x2), (3, .int x3), (4, .int x4), (5, .int 0)] [] G Q))) :
    EvV K mX12_saysSentence 2 16 [(0, .ref 66), (1, .int x1), (2, .int x2), (3, .int x3), (4, .int x4)] [] G Q := by
  refine E_iload 4 dX12_saysSentence_16 rfl ?_
  refine E_iconst (v := 5) dX12_saysSentence_18 (by decide) ?_
  refine E_icmp_ge (tgt := 86) dX12_saysSentence_19 (by decide) (fun c => ?_) (fun c => ?_)
  · have hB := hB.1 c
    refine E_aload_n 0 dX12_saysSentence_86 rfl rfl rfl ?_
    refine E_bipush (v := 32) dX12_saysSentence_87 (by decide) ?_
    refine E_cV (ci := 11) (as := [.int 32]) (st := []) cm_X12_says cV_X12_406 ⟨_, _, rfl⟩ (by decide) (lo_66 hL) rfl rfl (by decide) (Nat.le_of_ble_eq_true rfl) (Nat.le_of_ble_eq_true rfl) dX12_saysSentence_89 hB (fun r G1 hr => ?_)
    obtain ⟨rfl, hE1, hB⟩ := hr
    have hL1 : Lay G1.2.2 := by rw [hE1]; exact hL
    have hE1 : G1.2.2 = G.2.2 := hE1
    show Ev K mX12_saysSentence 2 92 [(0, .ref 66), (1, .int x1), (2, .int x2), (3, .int x3), (4, .int x4)] [] G1 _
    refine E_aload_n 0 dX12_saysSentence_92 rfl rfl rfl ?_
    refine E_bipush (v := 58) dX12_saysSentence_93 (by decide) ?_
    refine E_cV (ci := 11) (as := [.int 58]) (st := []) cm_X12_says cV_X12_406 ⟨_, _, rfl⟩ (by decide) (lo_66 hL1) rfl rfl (by decide) (Nat.le_of_ble_eq_true rfl) (Nat.le_of_ble_eq_true rfl) dX12_saysSentence_95 hB (fun r G2 hr => ?_)
    obtain ⟨rfl, hE2, hB⟩ := hr
    have hL2 : Lay G2.2.2 := by rw [hE2]; exact hL1
    have hE2 : G2.2.2 = G.2.2 := hE2.trans hE1
    show Ev K mX12_saysSentence 2 98 [(0, .ref 66), (1, .int x1), (2, .int x2), (3, .int x3), (4, .int x4)] [] G2 _
    refine E_iconst (v := 0) dX12_saysSentence_98 (by decide) ?_
    refine E_istore (lv' := [(0, .ref 66), (1, .int x1), (2, .int x2), (3, .int x3), (4, .int 0)]) dX12_saysSentence_99 (by decide) rfl ?_
    refine E_sub (lv' := [(0, .ref 66), (1, .int x1), (4, .int 0)]) [0, 1, 4] rfl ?_
    exact EvV.tr hB hE2
  · have hB := hB.2 c
    refine E_iconst (v := 0) dX12_saysSentence_22 (by decide) ?_
    refine E_istore (lv' := [(0, .ref 66), (1, .int x1), (2, .int x2), (3, .int x3), (4, .int x4), (5, .int 0)]) dX12_saysSentence_23 (by decide) rfl ?_
    exact EvV.tr hB rfl

set_option maxRecDepth 20000 in
set_option maxHeartbeats 2000000 in
theorem kX12_saysSentence_25 {K : KT} {G : St} {Q : St → Prop} {x1 : Int32} {x2 : Int32} {x3 : Int32} {x4 : Int32} {x5 : Int32} (hL : Lay G.2.2) 
    (hB : (((x3 - x3 / 6 * 6) ≤ x5 → EvV K mX12_saysSentence 2 16 [(0, .ref 66), (1, .int x1), (2, .int x2), (3, .int (x3 / 6)), (4, .int (x4 + 1))] [] G Q) ∧ (¬ (x3 - x3 / 6 * 6) ≤ x5 → ((¬ x2 = 0 → EvV K mX12_saysSentence 2 56 [(0, .ref 66), (1, .int x1), (3, .int x3), (4, .int x4), (5, .int x5)] [] G Q) ∧ (x2 = 0 → EvV K mX12_says 0 0 [(0, .ref 66), (1, .int 32)] [] G (fun G1 => EvV K mX12_says 0 0 [(0, .ref 66), (1, .int 44)] [] G1 (fun G2 => EvV K mX12_says 0 0 [(0, .ref 66), (1, .int 32)] [] G2 (fun G3 => EvV K mX12_saysSentence 2 56 [(0, .ref 66), (1, .int x1), (3, .int x3), (4, .int x4), (5, .int x5)] [] G3 Q)))))))) :
    EvV K mX12_saysSentence 2 25 [(0, .ref 66), (1, .int x1), (2, .int x2), (3, .int x3), (4, .int x4), (5, .int x5)] [] G Q := by
  refine E_iload 5 dX12_saysSentence_25 rfl ?_
  refine E_iload_n 3 dX12_saysSentence_27 rfl rfl ?_
  refine E_bipush (v := 6) dX12_saysSentence_28 (by decide) ?_
  refine E_irem dX12_saysSentence_30 (by decide) ?_
  refine E_icmp_ge (tgt := 75) dX12_saysSentence_31 (by decide) (fun c => ?_) (fun c => ?_)
  · have hB := hB.1 c
    refine E_iload_n 3 dX12_saysSentence_75 rfl rfl ?_
    refine E_bipush (v := 6) dX12_saysSentence_76 (by decide) ?_
    refine E_idiv dX12_saysSentence_78 (by decide) ?_
    refine E_istore_n (lv' := [(0, .ref 66), (1, .int x1), (2, .int x2), (3, .int (x3 / 6)), (4, .int x4), (5, .int x5)]) dX12_saysSentence_79 rfl (by decide) rfl ?_
    refine E_iinc (v := x4 + 1) (lv' := [(0, .ref 66), (1, .int x1), (2, .int x2), (3, .int (x3 / 6)), (4, .int (x4 + 1)), (5, .int x5)]) 4 dX12_saysSentence_80 rfl rfl (by decide) rfl ?_
    refine E_goto (tgt := 16) dX12_saysSentence_83 (by decide) ?_
    refine E_sub (lv' := [(0, .ref 66), (1, .int x1), (2, .int x2), (3, .int (x3 / 6)), (4, .int (x4 + 1))]) [0, 1, 2, 3, 4] rfl ?_
    exact EvV.tr hB rfl
  · have hB := hB.2 c
    refine E_iload_n 2 dX12_saysSentence_34 rfl rfl ?_
    refine E_if_ne (tgt := 56) dX12_saysSentence_35 (by decide) (fun c => ?_) (fun c => ?_)
    · have hB := hB.1 c
      refine E_sub (lv' := [(0, .ref 66), (1, .int x1), (3, .int x3), (4, .int x4), (5, .int x5)]) [0, 1, 3, 4, 5] rfl ?_
      exact EvV.tr hB rfl
    · have hB := hB.2 c
      refine E_aload_n 0 dX12_saysSentence_38 rfl rfl rfl ?_
      refine E_bipush (v := 32) dX12_saysSentence_39 (by decide) ?_
      refine E_cV (ci := 11) (as := [.int 32]) (st := []) cm_X12_says cV_X12_406 ⟨_, _, rfl⟩ (by decide) (lo_66 hL) rfl rfl (by decide) (Nat.le_of_ble_eq_true rfl) (Nat.le_of_ble_eq_true rfl) dX12_saysSentence_41 hB (fun r G1 hr => ?_)
      obtain ⟨rfl, hE1, hB⟩ := hr
      have hL1 : Lay G1.2.2 := by rw [hE1]; exact hL
      have hE1 : G1.2.2 = G.2.2 := hE1
      show Ev K mX12_saysSentence 2 44 [(0, .ref 66), (1, .int x1), (2, .int x2), (3, .int x3), (4, .int x4), (5, .int x5)] [] G1 _
      refine E_aload_n 0 dX12_saysSentence_44 rfl rfl rfl ?_
      refine E_bipush (v := 44) dX12_saysSentence_45 (by decide) ?_
      refine E_cV (ci := 11) (as := [.int 44]) (st := []) cm_X12_says cV_X12_406 ⟨_, _, rfl⟩ (by decide) (lo_66 hL1) rfl rfl (by decide) (Nat.le_of_ble_eq_true rfl) (Nat.le_of_ble_eq_true rfl) dX12_saysSentence_47 hB (fun r G2 hr => ?_)
      obtain ⟨rfl, hE2, hB⟩ := hr
      have hL2 : Lay G2.2.2 := by rw [hE2]; exact hL1
      have hE2 : G2.2.2 = G.2.2 := hE2.trans hE1
      show Ev K mX12_saysSentence 2 50 [(0, .ref 66), (1, .int x1), (2, .int x2), (3, .int x3), (4, .int x4), (5, .int x5)] [] G2 _
      refine E_aload_n 0 dX12_saysSentence_50 rfl rfl rfl ?_
      refine E_bipush (v := 32) dX12_saysSentence_51 (by decide) ?_
      refine E_cV (ci := 11) (as := [.int 32]) (st := []) cm_X12_says cV_X12_406 ⟨_, _, rfl⟩ (by decide) (lo_66 hL2) rfl rfl (by decide) (Nat.le_of_ble_eq_true rfl) (Nat.le_of_ble_eq_true rfl) dX12_saysSentence_53 hB (fun r G3 hr => ?_)
      obtain ⟨rfl, hE3, hB⟩ := hr
      have hL3 : Lay G3.2.2 := by rw [hE3]; exact hL2
      have hE3 : G3.2.2 = G.2.2 := hE3.trans hE2
      show Ev K mX12_saysSentence 2 56 [(0, .ref 66), (1, .int x1), (2, .int x2), (3, .int x3), (4, .int x4), (5, .int x5)] [] G3 _
      refine E_sub (lv' := [(0, .ref 66), (1, .int x1), (3, .int x3), (4, .int x4), (5, .int x5)]) [0, 1, 3, 4, 5] rfl ?_
      exact EvV.tr hB hE3

set_option maxRecDepth 20000 in
set_option maxHeartbeats 2000000 in
theorem kX12_saysSentence_56 {K : KT} {G : St} {Q : St → Prop} {x1 : Int32} {x3 : Int32} {x4 : Int32} {x5 : Int32} (hL : Lay G.2.2) 
    (hB : vp_in x4 10 ∧ EvV K mX12_saysWord 1 0 [(0, .ref 66), (1, .long (sL G 73 (Int32.toNatClampNeg x4)))] [] G (fun G2 => EvV K mX12_saysSentence 2 25 [(0, .ref 66), (1, .int x1), (2, .int 0), (3, .int x3), (4, .int x4), (5, .int (x5 + 1))] [] G2 Q)) :
    EvV K mX12_saysSentence 2 56 [(0, .ref 66), (1, .int x1), (3, .int x3), (4, .int x4), (5, .int x5)] [] G Q := by
  refine E_aload_n 0 dX12_saysSentence_56 rfl rfl rfl ?_
  refine E_aload_n 0 dX12_saysSentence_57 rfl rfl rfl ?_
  refine E_gR (j := 73) fG_X12_56 rfl (lo_66 hL) (lr_66_11 hL) (by decide) dX12_saysSentence_58 ?_
  refine E_iload 3 dX12_saysSentence_61 rfl ?_
  obtain ⟨qq1, hB⟩ := hB
  refine E_aL (p := Int32.toNatClampNeg x4) (v := sL G 73 (Int32.toNatClampNeg x4)) (la_73 hL) qq1 rfl rfl dX12_saysSentence_63 ?_
  refine E_cV (ci := 11) (as := [.long (sL G 73 (Int32.toNatClampNeg x4))]) (st := []) cm_X12_saysWord cV_X12_411 ⟨_, _, rfl⟩ (by decide) (lo_66 hL) rfl rfl (by decide) (Nat.le_of_ble_eq_true rfl) (Nat.le_of_ble_eq_true rfl) dX12_saysSentence_64 hB (fun r G2 hr => ?_)
  obtain ⟨rfl, hE2, hB⟩ := hr
  have hL2 : Lay G2.2.2 := by rw [hE2]; exact hL
  have hE2 : G2.2.2 = G.2.2 := hE2
  show Ev K mX12_saysSentence 2 67 [(0, .ref 66), (1, .int x1), (3, .int x3), (4, .int x4), (5, .int x5)] [] G2 _
  refine E_iconst (v := 0) dX12_saysSentence_67 (by decide) ?_
  refine E_istore_n (lv' := [(0, .ref 66), (1, .int x1), (2, .int 0), (3, .int x3), (4, .int x4), (5, .int x5)]) dX12_saysSentence_68 rfl (by decide) rfl ?_
  refine E_iinc (v := x5 + 1) (lv' := [(0, .ref 66), (1, .int x1), (2, .int 0), (3, .int x3), (4, .int x4), (5, .int (x5 + 1))]) 5 dX12_saysSentence_69 rfl rfl (by decide) rfl ?_
  refine E_goto (tgt := 25) dX12_saysSentence_72 (by decide) ?_
  exact EvV.tr hB hE2

set_option maxRecDepth 20000 in
set_option maxHeartbeats 2000000 in
theorem kX12_saysSentence_101 {K : KT} {G : St} {Q : St → Prop} {x1 : Int32} {x4 : Int32} (hL : Lay G.2.2) 
    (hB : (((sI G 66 20) ≤ x4 → Q G) ∧ (¬ (sI G 66 20) ≤ x4 → ((x4 ≤ 0 → EvV K mX12_saysSentence 2 127 [(0, .ref 66), (1, .int x1), (4, .int x4)] [] G Q) ∧ (¬ x4 ≤ 0 → EvV K mX12_says 0 0 [(0, .ref 66), (1, .int 32)] [] G (fun G1 => EvV K mX12_says 0 0 [(0, .ref 66), (1, .int 44)] [] G1 (fun G2 => EvV K mX12_saysSentence 2 127 [(0, .ref 66), (1, .int x1), (4, .int x4)] [] G2 Q))))))) :
    EvV K mX12_saysSentence 2 101 [(0, .ref 66), (1, .int x1), (4, .int x4)] [] G Q := by
  refine E_iload 2 dX12_saysSentence_101 rfl ?_
  refine E_aload_n 0 dX12_saysSentence_103 rfl rfl rfl ?_
  refine E_gI (v := sI G 66 20) fG_X12_226 rfl (lo_66 hL) rfl dX12_saysSentence_104 ?_
  refine E_icmp_ge (tgt := 292) dX12_saysSentence_107 (by decide) (fun c => ?_) (fun c => ?_)
  · have hB := hB.1 c
    exact E_vret rfl dX12_saysSentence_292 ⟨rfl, rfl, hB⟩
  · have hB := hB.2 c
    refine E_iload 2 dX12_saysSentence_110 rfl ?_
    refine E_if_le (tgt := 127) dX12_saysSentence_112 (by decide) (fun c => ?_) (fun c => ?_)
    · have hB := hB.1 c
      exact EvV.tr hB rfl
    · have hB := hB.2 c
      refine E_aload_n 0 dX12_saysSentence_115 rfl rfl rfl ?_
      refine E_bipush (v := 32) dX12_saysSentence_116 (by decide) ?_
      refine E_cV (ci := 11) (as := [.int 32]) (st := []) cm_X12_says cV_X12_406 ⟨_, _, rfl⟩ (by decide) (lo_66 hL) rfl rfl (by decide) (Nat.le_of_ble_eq_true rfl) (Nat.le_of_ble_eq_true rfl) dX12_saysSentence_118 hB (fun r G1 hr => ?_)
      obtain ⟨rfl, hE1, hB⟩ := hr
      have hL1 : Lay G1.2.2 := by rw [hE1]; exact hL
      have hE1 : G1.2.2 = G.2.2 := hE1
      show Ev K mX12_saysSentence 2 121 [(0, .ref 66), (1, .int x1), (4, .int x4)] [] G1 _
      refine E_aload_n 0 dX12_saysSentence_121 rfl rfl rfl ?_
      refine E_bipush (v := 44) dX12_saysSentence_122 (by decide) ?_
      refine E_cV (ci := 11) (as := [.int 44]) (st := []) cm_X12_says cV_X12_406 ⟨_, _, rfl⟩ (by decide) (lo_66 hL1) rfl rfl (by decide) (Nat.le_of_ble_eq_true rfl) (Nat.le_of_ble_eq_true rfl) dX12_saysSentence_124 hB (fun r G2 hr => ?_)
      obtain ⟨rfl, hE2, hB⟩ := hr
      have hL2 : Lay G2.2.2 := by rw [hE2]; exact hL1
      have hE2 : G2.2.2 = G.2.2 := hE2.trans hE1
      show Ev K mX12_saysSentence 2 127 [(0, .ref 66), (1, .int x1), (4, .int x4)] [] G2 _
      exact EvV.tr hB hE2

set_option maxRecDepth 20000 in
set_option maxHeartbeats 2000000 in
theorem kX12_saysSentence_127 {K : KT} {G : St} {Q : St → Prop} {x1 : Int32} {x4 : Int32} (hL : Lay G.2.2) 
    (hB : EvV K mX12_says 0 0 [(0, .ref 66), (1, .int 32)] [] G (fun G1 => vp_in x4 8 ∧ (((sI G1 79 (Int32.toNatClampNeg x4)) = 0 → EvV K mX12_saysSentence 2 169 [(0, .ref 66), (1, .int x1), (4, .int x4)] [] G1 Q) ∧ (¬ (sI G1 79 (Int32.toNatClampNeg x4)) = 0 → vp_in x4 8 ∧ vp_in ((4 + (sI G1 79 (Int32.toNatClampNeg x4))) - 1) 8 ∧ EvV K mX12_saysWord 1 0 [(0, .ref 66), (1, .long (sL G1 71 (Int32.toNatClampNeg ((4 + (sI G1 79 (Int32.toNatClampNeg x4))) - 1))))] [] G1 (fun G5 => EvV K mX12_says 0 0 [(0, .ref 66), (1, .int 32)] [] G5 (fun G6 => EvV K mX12_saysSentence 2 169 [(0, .ref 66), (1, .int x1), (4, .int x4)] [] G6 Q)))))) :
    EvV K mX12_saysSentence 2 127 [(0, .ref 66), (1, .int x1), (4, .int x4)] [] G Q := by
  refine E_aload_n 0 dX12_saysSentence_127 rfl rfl rfl ?_
  refine E_bipush (v := 32) dX12_saysSentence_128 (by decide) ?_
  refine E_cV (ci := 11) (as := [.int 32]) (st := []) cm_X12_says cV_X12_406 ⟨_, _, rfl⟩ (by decide) (lo_66 hL) rfl rfl (by decide) (Nat.le_of_ble_eq_true rfl) (Nat.le_of_ble_eq_true rfl) dX12_saysSentence_130 hB (fun r G1 hr => ?_)
  obtain ⟨rfl, hE1, hB⟩ := hr
  have hL1 : Lay G1.2.2 := by rw [hE1]; exact hL
  have hE1 : G1.2.2 = G.2.2 := hE1
  show Ev K mX12_saysSentence 2 133 [(0, .ref 66), (1, .int x1), (4, .int x4)] [] G1 _
  refine E_aload_n 0 dX12_saysSentence_133 rfl rfl rfl ?_
  refine E_gR (j := 79) fG_X12_74 rfl (lo_66 hL1) (lr_66_22 hL1) (by decide) dX12_saysSentence_134 ?_
  refine E_iload 2 dX12_saysSentence_137 rfl ?_
  obtain ⟨qq2, hB⟩ := hB
  refine E_aI (p := Int32.toNatClampNeg x4) (v := sI G1 79 (Int32.toNatClampNeg x4)) (la_79 hL1) qq2 rfl rfl dX12_saysSentence_139 ?_
  refine E_if_eq (tgt := 169) dX12_saysSentence_140 (by decide) (fun c => ?_) (fun c => ?_)
  · have hB := hB.1 c
    exact EvV.tr hB hE1
  · have hB := hB.2 c
    refine E_aload_n 0 dX12_saysSentence_143 rfl rfl rfl ?_
    refine E_aload_n 0 dX12_saysSentence_144 rfl rfl rfl ?_
    refine E_gR (j := 71) fG_X12_50 rfl (lo_66 hL1) (lr_66_9 hL1) (by decide) dX12_saysSentence_145 ?_
    refine E_iconst (v := 4) dX12_saysSentence_148 (by decide) ?_
    refine E_aload_n 0 dX12_saysSentence_149 rfl rfl rfl ?_
    refine E_gR (j := 79) fG_X12_74 rfl (lo_66 hL1) (lr_66_22 hL1) (by decide) dX12_saysSentence_150 ?_
    refine E_iload 2 dX12_saysSentence_153 rfl ?_
    obtain ⟨qq3, hB⟩ := hB
    refine E_aI (p := Int32.toNatClampNeg x4) (v := sI G1 79 (Int32.toNatClampNeg x4)) (la_79 hL1) qq3 rfl rfl dX12_saysSentence_155 ?_
    refine E_iadd dX12_saysSentence_156 ?_
    refine E_iconst (v := 1) dX12_saysSentence_157 (by decide) ?_
    refine E_isub dX12_saysSentence_158 ?_
    obtain ⟨qq4, hB⟩ := hB
    refine E_aL (p := Int32.toNatClampNeg ((4 + (sI G1 79 (Int32.toNatClampNeg x4))) - 1)) (v := sL G1 71 (Int32.toNatClampNeg ((4 + (sI G1 79 (Int32.toNatClampNeg x4))) - 1))) (la_71 hL1) qq4 rfl rfl dX12_saysSentence_159 ?_
    refine E_cV (ci := 11) (as := [.long (sL G1 71 (Int32.toNatClampNeg ((4 + (sI G1 79 (Int32.toNatClampNeg x4))) - 1)))]) (st := []) cm_X12_saysWord cV_X12_411 ⟨_, _, rfl⟩ (by decide) (lo_66 hL1) rfl rfl (by decide) (Nat.le_of_ble_eq_true rfl) (Nat.le_of_ble_eq_true rfl) dX12_saysSentence_160 hB (fun r G5 hr => ?_)
    obtain ⟨rfl, hE5, hB⟩ := hr
    have hL5 : Lay G5.2.2 := by rw [hE5]; exact hL1
    have hE5 : G5.2.2 = G.2.2 := hE5.trans hE1
    show Ev K mX12_saysSentence 2 163 [(0, .ref 66), (1, .int x1), (4, .int x4)] [] G5 _
    refine E_aload_n 0 dX12_saysSentence_163 rfl rfl rfl ?_
    refine E_bipush (v := 32) dX12_saysSentence_164 (by decide) ?_
    refine E_cV (ci := 11) (as := [.int 32]) (st := []) cm_X12_says cV_X12_406 ⟨_, _, rfl⟩ (by decide) (lo_66 hL5) rfl rfl (by decide) (Nat.le_of_ble_eq_true rfl) (Nat.le_of_ble_eq_true rfl) dX12_saysSentence_166 hB (fun r G6 hr => ?_)
    obtain ⟨rfl, hE6, hB⟩ := hr
    have hL6 : Lay G6.2.2 := by rw [hE6]; exact hL5
    have hE6 : G6.2.2 = G.2.2 := hE6.trans hE5
    show Ev K mX12_saysSentence 2 169 [(0, .ref 66), (1, .int x1), (4, .int x4)] [] G6 _
    exact EvV.tr hB hE6

set_option maxRecDepth 20000 in
set_option maxHeartbeats 2000000 in
theorem kX12_saysSentence_169 {K : KT} {G : St} {Q : St → Prop} {x1 : Int32} {x4 : Int32} (hL : Lay G.2.2) 
    (hB : vp_in x4 8 ∧ (((sI G 79 (Int32.toNatClampNeg x4)) = 2 → EvV K mX12_saysSentence 2 191 [(0, .ref 66), (1, .int x1), (4, .int x4)] [] G Q) ∧ (¬ (sI G 79 (Int32.toNatClampNeg x4)) = 2 → vp_in x4 8 ∧ ((¬ (sI G 79 (Int32.toNatClampNeg x4)) = 3 → vp_in x4 8 ∧ EvV K mX12_saysWord 1 0 [(0, .ref 66), (1, .long (sL G 80 (Int32.toNatClampNeg x4)))] [] G (fun G4 => EvV K mX12_saysSentence 2 216 [(0, .ref 66), (1, .int x1), (4, .int x4)] [] G4 Q)) ∧ ((sI G 79 (Int32.toNatClampNeg x4)) = 3 → EvV K mX12_saysSentence 2 191 [(0, .ref 66), (1, .int x1), (4, .int x4)] [] G Q))))) :
    EvV K mX12_saysSentence 2 169 [(0, .ref 66), (1, .int x1), (4, .int x4)] [] G Q := by
  refine E_aload_n 0 dX12_saysSentence_169 rfl rfl rfl ?_
  refine E_gR (j := 79) fG_X12_74 rfl (lo_66 hL) (lr_66_22 hL) (by decide) dX12_saysSentence_170 ?_
  refine E_iload 2 dX12_saysSentence_173 rfl ?_
  obtain ⟨qq1, hB⟩ := hB
  refine E_aI (p := Int32.toNatClampNeg x4) (v := sI G 79 (Int32.toNatClampNeg x4)) (la_79 hL) qq1 rfl rfl dX12_saysSentence_175 ?_
  refine E_iconst (v := 2) dX12_saysSentence_176 (by decide) ?_
  refine E_icmp_eq (tgt := 191) dX12_saysSentence_177 (by decide) (fun c => ?_) (fun c => ?_)
  · have hB := hB.1 c
    exact EvV.tr hB rfl
  · have hB := hB.2 c
    refine E_aload_n 0 dX12_saysSentence_180 rfl rfl rfl ?_
    refine E_gR (j := 79) fG_X12_74 rfl (lo_66 hL) (lr_66_22 hL) (by decide) dX12_saysSentence_181 ?_
    refine E_iload 2 dX12_saysSentence_184 rfl ?_
    obtain ⟨qq2, hB⟩ := hB
    refine E_aI (p := Int32.toNatClampNeg x4) (v := sI G 79 (Int32.toNatClampNeg x4)) (la_79 hL) qq2 rfl rfl dX12_saysSentence_186 ?_
    refine E_iconst (v := 3) dX12_saysSentence_187 (by decide) ?_
    refine E_icmp_ne (tgt := 205) dX12_saysSentence_188 (by decide) (fun c => ?_) (fun c => ?_)
    · have hB := hB.1 c
      refine E_aload_n 0 dX12_saysSentence_205 rfl rfl rfl ?_
      refine E_aload_n 0 dX12_saysSentence_206 rfl rfl rfl ?_
      refine E_gR (j := 80) fG_X12_77 rfl (lo_66 hL) (lr_66_23 hL) (by decide) dX12_saysSentence_207 ?_
      refine E_iload 2 dX12_saysSentence_210 rfl ?_
      obtain ⟨qq3, hB⟩ := hB
      refine E_aL (p := Int32.toNatClampNeg x4) (v := sL G 80 (Int32.toNatClampNeg x4)) (la_80 hL) qq3 rfl rfl dX12_saysSentence_212 ?_
      refine E_cV (ci := 11) (as := [.long (sL G 80 (Int32.toNatClampNeg x4))]) (st := []) cm_X12_saysWord cV_X12_411 ⟨_, _, rfl⟩ (by decide) (lo_66 hL) rfl rfl (by decide) (Nat.le_of_ble_eq_true rfl) (Nat.le_of_ble_eq_true rfl) dX12_saysSentence_213 hB (fun r G4 hr => ?_)
      obtain ⟨rfl, hE4, hB⟩ := hr
      have hL4 : Lay G4.2.2 := by rw [hE4]; exact hL
      have hE4 : G4.2.2 = G.2.2 := hE4
      show Ev K mX12_saysSentence 2 216 [(0, .ref 66), (1, .int x1), (4, .int x4)] [] G4 _
      exact EvV.tr hB hE4
    · have hB := hB.2 c
      exact EvV.tr hB rfl

set_option maxRecDepth 20000 in
set_option maxHeartbeats 2000000 in
theorem kX12_saysSentence_191 {K : KT} {G : St} {Q : St → Prop} {x1 : Int32} {x4 : Int32} (hL : Lay G.2.2) 
    (hB : vp_in x4 8 ∧ EvV K mX12_saysNumber 1 0 [(0, .ref 66), (1, .long (sL G 80 (Int32.toNatClampNeg x4)))] [] G (fun G2 => EvV K mX12_saysSentence 2 216 [(0, .ref 66), (1, .int x1), (4, .int x4)] [] G2 Q)) :
    EvV K mX12_saysSentence 2 191 [(0, .ref 66), (1, .int x1), (4, .int x4)] [] G Q := by
  refine E_aload_n 0 dX12_saysSentence_191 rfl rfl rfl ?_
  refine E_aload_n 0 dX12_saysSentence_192 rfl rfl rfl ?_
  refine E_gR (j := 80) fG_X12_77 rfl (lo_66 hL) (lr_66_23 hL) (by decide) dX12_saysSentence_193 ?_
  refine E_iload 2 dX12_saysSentence_196 rfl ?_
  obtain ⟨qq1, hB⟩ := hB
  refine E_aL (p := Int32.toNatClampNeg x4) (v := sL G 80 (Int32.toNatClampNeg x4)) (la_80 hL) qq1 rfl rfl dX12_saysSentence_198 ?_
  refine E_cV (ci := 11) (as := [.long (sL G 80 (Int32.toNatClampNeg x4))]) (st := []) cm_X12_saysNumber cV_X12_414 ⟨_, _, rfl⟩ (by decide) (lo_66 hL) rfl rfl (by decide) (Nat.le_of_ble_eq_true rfl) (Nat.le_of_ble_eq_true rfl) dX12_saysSentence_199 hB (fun r G2 hr => ?_)
  obtain ⟨rfl, hE2, hB⟩ := hr
  have hL2 : Lay G2.2.2 := by rw [hE2]; exact hL
  have hE2 : G2.2.2 = G.2.2 := hE2
  show Ev K mX12_saysSentence 2 202 [(0, .ref 66), (1, .int x1), (4, .int x4)] [] G2 _
  refine E_goto (tgt := 216) dX12_saysSentence_202 (by decide) ?_
  exact EvV.tr hB hE2

set_option maxRecDepth 20000 in
set_option maxHeartbeats 2000000 in
theorem kX12_saysSentence_216 {K : KT} {G : St} {Q : St → Prop} {x1 : Int32} {x4 : Int32} (hL : Lay G.2.2) 
    (hB : EvV K mX12_says 0 0 [(0, .ref 66), (1, .int 32)] [] G (fun G1 => EvV K mX12_saysWord 1 0 [(0, .ref 66), (1, .long (sL G1 71 7))] [] G1 (fun G2 => EvV K mX12_says 0 0 [(0, .ref 66), (1, .int 32)] [] G2 (fun G3 => vp_in x1 60000 ∧ EvV K mX12_saysSentence 2 254 [(0, .ref 66), (1, .int x1), (4, .int x4), (5, .int ((sI G3 96 (Int32.toNatClampNeg x1)) - (sI G3 96 (Int32.toNatClampNeg x1)) / 625 * 625)), (6, .int 3)] [] G3 Q)))) :
    EvV K mX12_saysSentence 2 216 [(0, .ref 66), (1, .int x1), (4, .int x4)] [] G Q := by
  refine E_aload_n 0 dX12_saysSentence_216 rfl rfl rfl ?_
  refine E_bipush (v := 32) dX12_saysSentence_217 (by decide) ?_
  refine E_cV (ci := 11) (as := [.int 32]) (st := []) cm_X12_says cV_X12_406 ⟨_, _, rfl⟩ (by decide) (lo_66 hL) rfl rfl (by decide) (Nat.le_of_ble_eq_true rfl) (Nat.le_of_ble_eq_true rfl) dX12_saysSentence_219 hB (fun r G1 hr => ?_)
  obtain ⟨rfl, hE1, hB⟩ := hr
  have hL1 : Lay G1.2.2 := by rw [hE1]; exact hL
  have hE1 : G1.2.2 = G.2.2 := hE1
  show Ev K mX12_saysSentence 2 222 [(0, .ref 66), (1, .int x1), (4, .int x4)] [] G1 _
  refine E_aload_n 0 dX12_saysSentence_222 rfl rfl rfl ?_
  refine E_aload_n 0 dX12_saysSentence_223 rfl rfl rfl ?_
  refine E_gR (j := 71) fG_X12_50 rfl (lo_66 hL1) (lr_66_9 hL1) (by decide) dX12_saysSentence_224 ?_
  refine E_bipush (v := 7) dX12_saysSentence_227 (by decide) ?_
  refine E_aL (p := 7) (v := sL G1 71 7) (la_71 hL1) (by unfold vp_in; decide) (by decide) rfl dX12_saysSentence_229 ?_
  refine E_cV (ci := 11) (as := [.long (sL G1 71 7)]) (st := []) cm_X12_saysWord cV_X12_411 ⟨_, _, rfl⟩ (by decide) (lo_66 hL1) rfl rfl (by decide) (Nat.le_of_ble_eq_true rfl) (Nat.le_of_ble_eq_true rfl) dX12_saysSentence_230 hB (fun r G2 hr => ?_)
  obtain ⟨rfl, hE2, hB⟩ := hr
  have hL2 : Lay G2.2.2 := by rw [hE2]; exact hL1
  have hE2 : G2.2.2 = G.2.2 := hE2.trans hE1
  show Ev K mX12_saysSentence 2 233 [(0, .ref 66), (1, .int x1), (4, .int x4)] [] G2 _
  refine E_aload_n 0 dX12_saysSentence_233 rfl rfl rfl ?_
  refine E_bipush (v := 32) dX12_saysSentence_234 (by decide) ?_
  refine E_cV (ci := 11) (as := [.int 32]) (st := []) cm_X12_says cV_X12_406 ⟨_, _, rfl⟩ (by decide) (lo_66 hL2) rfl rfl (by decide) (Nat.le_of_ble_eq_true rfl) (Nat.le_of_ble_eq_true rfl) dX12_saysSentence_236 hB (fun r G3 hr => ?_)
  obtain ⟨rfl, hE3, hB⟩ := hr
  have hL3 : Lay G3.2.2 := by rw [hE3]; exact hL2
  have hE3 : G3.2.2 = G.2.2 := hE3.trans hE2
  show Ev K mX12_saysSentence 2 239 [(0, .ref 66), (1, .int x1), (4, .int x4)] [] G3 _
  refine E_aload_n 0 dX12_saysSentence_239 rfl rfl rfl ?_
  refine E_gR (j := 96) fG_X12_128 rfl (lo_66 hL3) (lr_66_46 hL3) (by decide) dX12_saysSentence_240 ?_
  refine E_iload_n 1 dX12_saysSentence_243 rfl rfl ?_
  obtain ⟨qq4, hB⟩ := hB
  refine E_aI (p := Int32.toNatClampNeg x1) (v := sI G3 96 (Int32.toNatClampNeg x1)) (la_96 hL3) qq4 rfl rfl dX12_saysSentence_244 ?_
  refine E_sipush (v := 625) dX12_saysSentence_245 (by decide) ?_
  refine E_irem dX12_saysSentence_248 (by decide) ?_
  refine E_istore (lv' := [(0, .ref 66), (1, .int x1), (4, .int x4), (5, .int ((sI G3 96 (Int32.toNatClampNeg x1)) - (sI G3 96 (Int32.toNatClampNeg x1)) / 625 * 625))]) dX12_saysSentence_249 (by decide) rfl ?_
  refine E_iconst (v := 3) dX12_saysSentence_251 (by decide) ?_
  refine E_istore (lv' := [(0, .ref 66), (1, .int x1), (4, .int x4), (5, .int ((sI G3 96 (Int32.toNatClampNeg x1)) - (sI G3 96 (Int32.toNatClampNeg x1)) / 625 * 625)), (6, .int 3)]) dX12_saysSentence_252 (by decide) rfl ?_
  exact EvV.tr hB hE3

set_option maxRecDepth 20000 in
set_option maxHeartbeats 2000000 in
theorem kX12_saysSentence_254 {K : KT} {G : St} {Q : St → Prop} {x1 : Int32} {x4 : Int32} {x5 : Int32} {x6 : Int32} (hL : Lay G.2.2) 
    (hB : ((x6 ≤ x4 → vp_in (x5 - x5 / 5 * 5) 10 ∧ EvV K mX12_saysWord 1 0 [(0, .ref 66), (1, .long (sL G 73 (Int32.toNatClampNeg (x5 - x5 / 5 * 5))))] [] G (fun G2 => EvV K mX12_saysSentence 2 101 [(0, .ref 66), (1, .int x1), (4, .int (x4 + 1))] [] G2 Q)) ∧ (¬ x6 ≤ x4 → EvV K mX12_saysSentence 2 254 [(0, .ref 66), (1, .int x1), (4, .int x4), (5, .int (x5 / 5)), (6, .int (x6 + (-1)))] [] G Q))) :
    EvV K mX12_saysSentence 2 254 [(0, .ref 66), (1, .int x1), (4, .int x4), (5, .int x5), (6, .int x6)] [] G Q := by
  refine E_iload 4 dX12_saysSentence_254 rfl ?_
  refine E_iload 2 dX12_saysSentence_256 rfl ?_
  refine E_icmp_le (tgt := 273) dX12_saysSentence_258 (by decide) (fun c => ?_) (fun c => ?_)
  · have hB := hB.1 c
    refine E_aload_n 0 dX12_saysSentence_273 rfl rfl rfl ?_
    refine E_aload_n 0 dX12_saysSentence_274 rfl rfl rfl ?_
    refine E_gR (j := 73) fG_X12_56 rfl (lo_66 hL) (lr_66_11 hL) (by decide) dX12_saysSentence_275 ?_
    refine E_iload 3 dX12_saysSentence_278 rfl ?_
    refine E_iconst (v := 5) dX12_saysSentence_280 (by decide) ?_
    refine E_irem dX12_saysSentence_281 (by decide) ?_
    obtain ⟨qq1, hB⟩ := hB
    refine E_aL (p := Int32.toNatClampNeg (x5 - x5 / 5 * 5)) (v := sL G 73 (Int32.toNatClampNeg (x5 - x5 / 5 * 5))) (la_73 hL) qq1 rfl rfl dX12_saysSentence_282 ?_
    refine E_cV (ci := 11) (as := [.long (sL G 73 (Int32.toNatClampNeg (x5 - x5 / 5 * 5)))]) (st := []) cm_X12_saysWord cV_X12_411 ⟨_, _, rfl⟩ (by decide) (lo_66 hL) rfl rfl (by decide) (Nat.le_of_ble_eq_true rfl) (Nat.le_of_ble_eq_true rfl) dX12_saysSentence_283 hB (fun r G2 hr => ?_)
    obtain ⟨rfl, hE2, hB⟩ := hr
    have hL2 : Lay G2.2.2 := by rw [hE2]; exact hL
    have hE2 : G2.2.2 = G.2.2 := hE2
    show Ev K mX12_saysSentence 2 286 [(0, .ref 66), (1, .int x1), (4, .int x4), (5, .int x5), (6, .int x6)] [] G2 _
    refine E_iinc (v := x4 + 1) (lv' := [(0, .ref 66), (1, .int x1), (4, .int (x4 + 1)), (5, .int x5), (6, .int x6)]) 2 dX12_saysSentence_286 rfl rfl (by decide) rfl ?_
    refine E_goto (tgt := 101) dX12_saysSentence_289 (by decide) ?_
    refine E_sub (lv' := [(0, .ref 66), (1, .int x1), (4, .int (x4 + 1))]) [0, 1, 2] rfl ?_
    exact EvV.tr hB hE2
  · have hB := hB.2 c
    refine E_iload 3 dX12_saysSentence_261 rfl ?_
    refine E_iconst (v := 5) dX12_saysSentence_263 (by decide) ?_
    refine E_idiv dX12_saysSentence_264 (by decide) ?_
    refine E_istore (lv' := [(0, .ref 66), (1, .int x1), (4, .int x4), (5, .int (x5 / 5)), (6, .int x6)]) dX12_saysSentence_265 (by decide) rfl ?_
    refine E_iinc (v := x6 + (-1)) (lv' := [(0, .ref 66), (1, .int x1), (4, .int x4), (5, .int (x5 / 5)), (6, .int (x6 + (-1)))]) 4 dX12_saysSentence_267 rfl rfl (by decide) rfl ?_
    refine E_goto (tgt := 254) dX12_saysSentence_270 (by decide) ?_
    exact EvV.tr hB rfl

set_option maxRecDepth 20000 in
set_option maxHeartbeats 2000000 in
theorem kX12_asked_0 {K : KT} {G : St} {Q : Int32 → St → Prop} {x1 : Int32} {x2 : Int32} (hL : Lay G.2.2) 
    (hB : EvI K mX12_isQuestion 6 0 [(0, .ref 66), (1, .int x1)] [] (uI G 66 0 0) (fun r1 G1 => ((r1 = 0 → Q (-1) G1) ∧ (¬ r1 = 0 → EvI K mX12_within 0 0 [(0, .int x2), (1, .int 0), (2, .int 4)] [] G1 (fun r2 G2 => ((¬ r2 = 0 → ((x2 = 0 → vp_in x1 60000 ∧ Q (sI G2 98 (Int32.toNatClampNeg x1)) G2) ∧ (x2 = 1 → vp_in x1 60000 ∧ Q (sI G2 97 (Int32.toNatClampNeg x1)) G2) ∧ (x2 = 2 → EvI K mX12_tablesOf 0 0 [(0, .ref 66), (1, .int x1)] [] G2 (fun r5 G5 => vp_in r5 7776 ∧ Q (sI G5 99 (Int32.toNatClampNeg r5)) G5)) ∧ (x2 = 3 → EvI K mX12_rankOf 1 0 [(0, .ref 66), (1, .int x1)] [] G2 (fun r7 G7 => Q r7 G7)) ∧ (¬ x2 = 0 → ¬ x2 = 1 → ¬ x2 = 2 → ¬ x2 = 3 → EvV K mX12_saysSentence 2 0 [(0, .ref 66), (1, .int x1)] [] G2 (fun G8 => Q (sI G8 66 50) G8)))) ∧ (r2 = 0 → Q (-1) G2))))))) :
    EvI K mX12_asked 7 0 [(0, .ref 66), (1, .int x1), (2, .int x2)] [] G Q := by
  refine E_aload_n 0 dX12_asked_0 rfl rfl rfl ?_
  refine E_iconst (v := 0) dX12_asked_1 (by decide) ?_
  refine E_pI fP_X12_1 rfl (lo_66 hL) dX12_asked_2 ?_
  refine E_aload_n 0 dX12_asked_5 rfl rfl rfl ?_
  refine E_iload_n 1 dX12_asked_6 rfl rfl ?_
  refine E_cV (ci := 11) (as := [.int x1]) (st := []) cm_X12_isQuestion cV_X12_417 ⟨_, _, rfl⟩ (by decide) (lo_66 hL) rfl rfl (by decide) (Nat.le_of_ble_eq_true rfl) (Nat.le_of_ble_eq_true rfl) dX12_asked_7 hB (fun r G1 hr => ?_)
  obtain ⟨r1, rfl, hE1, hB⟩ := hr
  have hL1 : Lay G1.2.2 := by rw [hE1]; exact hL
  have hE1 : G1.2.2 = G.2.2 := hE1
  show Ev K mX12_asked 7 10 [(0, .ref 66), (1, .int x1), (2, .int x2)] [.int r1] G1 _
  refine E_if_eq (tgt := 22) dX12_asked_10 (by decide) (fun c => ?_) (fun c => ?_)
  · have hB := hB.1 c
    refine E_iconst (v := (-1)) dX12_asked_22 (by decide) ?_
    exact E_iret rfl dX12_asked_23 ⟨_, rfl, hE1, hB⟩
  · have hB := hB.2 c
    refine E_iload_n 2 dX12_asked_13 rfl rfl ?_
    refine E_iconst (v := 0) dX12_asked_14 (by decide) ?_
    refine E_iconst (v := 4) dX12_asked_15 (by decide) ?_
    refine E_callS (as := [.int x2, .int 0, .int 4]) (st := []) cm_X12_within cS_X12_277 rfl rfl (by decide) (Nat.le_of_ble_eq_true rfl) (Nat.le_of_ble_eq_true rfl) dX12_asked_16 hB (fun r G2 hr => ?_)
    obtain ⟨r2, rfl, hE2, hB⟩ := hr
    have hL2 : Lay G2.2.2 := by rw [hE2]; exact hL1
    have hE2 : G2.2.2 = G.2.2 := hE2.trans hE1
    show Ev K mX12_asked 7 19 [(0, .ref 66), (1, .int x1), (2, .int x2)] [.int r2] G2 _
    refine E_if_ne (tgt := 24) dX12_asked_19 (by decide) (fun c => ?_) (fun c => ?_)
    · have hB := hB.1 c
      refine E_iload_n 2 dX12_asked_24 rfl rfl ?_
      obtain ⟨hA, hB⟩ := hB
      by_cases c0 : x2 = 0
      · have hB := hA c0
        refine E_tableIn (off := 31) (tgt := 56) dX12_asked_25 (by rw [c0]; decide) (by rw [c0]; decide) (by rw [c0]; decide) (by decide) ?_
        refine E_aload_n 0 dX12_asked_56 rfl rfl rfl ?_
        refine E_gR (j := 98) fG_X12_134 rfl (lo_66 hL2) (lr_66_48 hL2) (by decide) dX12_asked_57 ?_
        refine E_iload_n 1 dX12_asked_60 rfl rfl ?_
        obtain ⟨qq3, hB⟩ := hB
        refine E_aI (p := Int32.toNatClampNeg x1) (v := sI G2 98 (Int32.toNatClampNeg x1)) (la_98 hL2) qq3 rfl rfl dX12_asked_61 ?_
        exact E_iret rfl dX12_asked_62 ⟨_, rfl, hE2, hB⟩
      obtain ⟨hA, hB⟩ := hB
      by_cases c1 : x2 = 1
      · have hB := hA c1
        refine E_tableIn (off := 38) (tgt := 63) dX12_asked_25 (by rw [c1]; decide) (by rw [c1]; decide) (by rw [c1]; decide) (by decide) ?_
        refine E_aload_n 0 dX12_asked_63 rfl rfl rfl ?_
        refine E_gR (j := 97) fG_X12_131 rfl (lo_66 hL2) (lr_66_47 hL2) (by decide) dX12_asked_64 ?_
        refine E_iload_n 1 dX12_asked_67 rfl rfl ?_
        obtain ⟨qq4, hB⟩ := hB
        refine E_aI (p := Int32.toNatClampNeg x1) (v := sI G2 97 (Int32.toNatClampNeg x1)) (la_97 hL2) qq4 rfl rfl dX12_asked_68 ?_
        exact E_iret rfl dX12_asked_69 ⟨_, rfl, hE2, hB⟩
      obtain ⟨hA, hB⟩ := hB
      by_cases c2 : x2 = 2
      · have hB := hA c2
        refine E_tableIn (off := 45) (tgt := 70) dX12_asked_25 (by rw [c2]; decide) (by rw [c2]; decide) (by rw [c2]; decide) (by decide) ?_
        refine E_aload_n 0 dX12_asked_70 rfl rfl rfl ?_
        refine E_gR (j := 99) fG_X12_137 rfl (lo_66 hL2) (lr_66_49 hL2) (by decide) dX12_asked_71 ?_
        refine E_aload_n 0 dX12_asked_74 rfl rfl rfl ?_
        refine E_iload_n 1 dX12_asked_75 rfl rfl ?_
        refine E_cV (ci := 11) (as := [.int x1]) (st := [.ref 99]) cm_X12_tablesOf cV_X12_400 ⟨_, _, rfl⟩ (by decide) (lo_66 hL2) rfl rfl (by decide) (Nat.le_of_ble_eq_true rfl) (Nat.le_of_ble_eq_true rfl) dX12_asked_76 hB (fun r G5 hr => ?_)
        obtain ⟨r5, rfl, hE5, hB⟩ := hr
        have hL5 : Lay G5.2.2 := by rw [hE5]; exact hL2
        have hE5 : G5.2.2 = G.2.2 := hE5.trans hE2
        show Ev K mX12_asked 7 79 [(0, .ref 66), (1, .int x1), (2, .int x2)] [.int r5, .ref 99] G5 _
        obtain ⟨qq6, hB⟩ := hB
        refine E_aI (p := Int32.toNatClampNeg r5) (v := sI G5 99 (Int32.toNatClampNeg r5)) (la_99 hL5) qq6 rfl rfl dX12_asked_79 ?_
        exact E_iret rfl dX12_asked_80 ⟨_, rfl, hE5, hB⟩
      obtain ⟨hA, hB⟩ := hB
      by_cases c3 : x2 = 3
      · have hB := hA c3
        refine E_tableIn (off := 56) (tgt := 81) dX12_asked_25 (by rw [c3]; decide) (by rw [c3]; decide) (by rw [c3]; decide) (by decide) ?_
        refine E_aload_n 0 dX12_asked_81 rfl rfl rfl ?_
        refine E_iload_n 1 dX12_asked_82 rfl rfl ?_
        refine E_cV (ci := 11) (as := [.int x1]) (st := []) cm_X12_rankOf cV_X12_420 ⟨_, _, rfl⟩ (by decide) (lo_66 hL2) rfl rfl (by decide) (Nat.le_of_ble_eq_true rfl) (Nat.le_of_ble_eq_true rfl) dX12_asked_83 hB (fun r G7 hr => ?_)
        obtain ⟨r7, rfl, hE7, hB⟩ := hr
        have hL7 : Lay G7.2.2 := by rw [hE7]; exact hL2
        have hE7 : G7.2.2 = G.2.2 := hE7.trans hE2
        show Ev K mX12_asked 7 86 [(0, .ref 66), (1, .int x1), (2, .int x2)] [.int r7] G7 _
        exact E_iret rfl dX12_asked_86 ⟨_, rfl, hE7, hB⟩
      have hB := hB c0 c1 c2 c3
      refine E_tableOut (tgt := 87) dX12_asked_25 (tb_outZ (by decide) (by decide) (fun z z1 z2 => ?_)) (by decide) ?_
      · have z3 : z = 0 ∨ z = 1 ∨ z = 2 ∨ z = 3 := by omega
        rcases z3 with rfl | rfl | rfl | rfl
        · exact fun q => c0 (q.trans (by decide))
        · exact fun q => c1 (q.trans (by decide))
        · exact fun q => c2 (q.trans (by decide))
        · exact fun q => c3 (q.trans (by decide))
      refine E_aload_n 0 dX12_asked_87 rfl rfl rfl ?_
      refine E_iload_n 1 dX12_asked_88 rfl rfl ?_
      refine E_cV (ci := 11) (as := [.int x1]) (st := []) cm_X12_saysSentence cV_X12_423 ⟨_, _, rfl⟩ (by decide) (lo_66 hL2) rfl rfl (by decide) (Nat.le_of_ble_eq_true rfl) (Nat.le_of_ble_eq_true rfl) dX12_asked_89 hB (fun r G8 hr => ?_)
      obtain ⟨rfl, hE8, hB⟩ := hr
      have hL8 : Lay G8.2.2 := by rw [hE8]; exact hL2
      have hE8 : G8.2.2 = G.2.2 := hE8.trans hE2
      show Ev K mX12_asked 7 92 [(0, .ref 66), (1, .int x1), (2, .int x2)] [] G8 _
      refine E_aload_n 0 dX12_asked_92 rfl rfl rfl ?_
      refine E_gI (v := sI G8 66 50) fG_X12_403 rfl (lo_66 hL8) rfl dX12_asked_93 ?_
      exact E_iret rfl dX12_asked_96 ⟨_, rfl, hE8, hB⟩
    · have hB := hB.2 c
      refine E_iconst (v := (-1)) dX12_asked_22 (by decide) ?_
      exact E_iret rfl dX12_asked_23 ⟨_, rfl, hE2, hB⟩

set_option maxRecDepth 20000 in
set_option maxHeartbeats 2000000 in
theorem kX12_said_0 {K : KT} {G : St} {Q : Int32 → St → Prop} {x1 : Int32} {x2 : Int32} (hL : Lay G.2.2) 
    (hB : EvI K mX12_isQuestion 6 0 [(0, .ref 66), (1, .int x1)] [] (uI G 66 0 0) (fun r1 G1 => ((¬ r1 = 0 → EvV K mX12_saysSentence 2 0 [(0, .ref 66), (1, .int x1)] [] G1 (fun G2 => EvI K mX12_within 0 0 [(0, .int x2), (1, .int 0), (2, .int ((sI G2 66 50) - 1))] [] G2 (fun r3 G3 => ((r3 = 0 → Q (-1) G3) ∧ (¬ r3 = 0 → vp_in x2 300 ∧ Q (sI G3 100 (Int32.toNatClampNeg x2)) G3))))) ∧ (r1 = 0 → Q (-1) G1)))) :
    EvI K mX12_said 7 0 [(0, .ref 66), (1, .int x1), (2, .int x2)] [] G Q := by
  refine E_aload_n 0 dX12_said_0 rfl rfl rfl ?_
  refine E_iconst (v := 0) dX12_said_1 (by decide) ?_
  refine E_pI fP_X12_1 rfl (lo_66 hL) dX12_said_2 ?_
  refine E_aload_n 0 dX12_said_5 rfl rfl rfl ?_
  refine E_iload_n 1 dX12_said_6 rfl rfl ?_
  refine E_cV (ci := 11) (as := [.int x1]) (st := []) cm_X12_isQuestion cV_X12_417 ⟨_, _, rfl⟩ (by decide) (lo_66 hL) rfl rfl (by decide) (Nat.le_of_ble_eq_true rfl) (Nat.le_of_ble_eq_true rfl) dX12_said_7 hB (fun r G1 hr => ?_)
  obtain ⟨r1, rfl, hE1, hB⟩ := hr
  have hL1 : Lay G1.2.2 := by rw [hE1]; exact hL
  have hE1 : G1.2.2 = G.2.2 := hE1
  show Ev K mX12_said 7 10 [(0, .ref 66), (1, .int x1), (2, .int x2)] [.int r1] G1 _
  refine E_if_ne (tgt := 15) dX12_said_10 (by decide) (fun c => ?_) (fun c => ?_)
  · have hB := hB.1 c
    refine E_aload_n 0 dX12_said_15 rfl rfl rfl ?_
    refine E_iload_n 1 dX12_said_16 rfl rfl ?_
    refine E_cV (ci := 11) (as := [.int x1]) (st := []) cm_X12_saysSentence cV_X12_423 ⟨_, _, rfl⟩ (by decide) (lo_66 hL1) rfl rfl (by decide) (Nat.le_of_ble_eq_true rfl) (Nat.le_of_ble_eq_true rfl) dX12_said_17 hB (fun r G2 hr => ?_)
    obtain ⟨rfl, hE2, hB⟩ := hr
    have hL2 : Lay G2.2.2 := by rw [hE2]; exact hL1
    have hE2 : G2.2.2 = G.2.2 := hE2.trans hE1
    show Ev K mX12_said 7 20 [(0, .ref 66), (1, .int x1), (2, .int x2)] [] G2 _
    refine E_iload_n 2 dX12_said_20 rfl rfl ?_
    refine E_iconst (v := 0) dX12_said_21 (by decide) ?_
    refine E_aload_n 0 dX12_said_22 rfl rfl rfl ?_
    refine E_gI (v := sI G2 66 50) fG_X12_403 rfl (lo_66 hL2) rfl dX12_said_23 ?_
    refine E_iconst (v := 1) dX12_said_26 (by decide) ?_
    refine E_isub dX12_said_27 ?_
    refine E_callS (as := [.int x2, .int 0, .int ((sI G2 66 50) - 1)]) (st := []) cm_X12_within cS_X12_277 rfl rfl (by decide) (Nat.le_of_ble_eq_true rfl) (Nat.le_of_ble_eq_true rfl) dX12_said_28 hB (fun r G3 hr => ?_)
    obtain ⟨r3, rfl, hE3, hB⟩ := hr
    have hL3 : Lay G3.2.2 := by rw [hE3]; exact hL2
    have hE3 : G3.2.2 = G.2.2 := hE3.trans hE2
    show Ev K mX12_said 7 31 [(0, .ref 66), (1, .int x1), (2, .int x2)] [.int r3] G3 _
    refine E_if_eq (tgt := 43) dX12_said_31 (by decide) (fun c => ?_) (fun c => ?_)
    · have hB := hB.1 c
      refine E_iconst (v := (-1)) dX12_said_43 (by decide) ?_
      exact E_iret rfl dX12_said_44 ⟨_, rfl, hE3, hB⟩
    · have hB := hB.2 c
      refine E_aload_n 0 dX12_said_34 rfl rfl rfl ?_
      refine E_gR (j := 100) fG_X12_140 rfl (lo_66 hL3) (lr_66_51 hL3) (by decide) dX12_said_35 ?_
      refine E_iload_n 2 dX12_said_38 rfl rfl ?_
      obtain ⟨qq4, hB⟩ := hB
      refine E_aI (p := Int32.toNatClampNeg x2) (v := sI G3 100 (Int32.toNatClampNeg x2)) (la_100 hL3) qq4 rfl rfl dX12_said_39 ?_
      refine E_goto (tgt := 44) dX12_said_40 (by decide) ?_
      exact E_iret rfl dX12_said_44 ⟨_, rfl, hE3, hB⟩
  · have hB := hB.2 c
    refine E_iconst (v := (-1)) dX12_said_13 (by decide) ?_
    exact E_iret rfl dX12_said_14 ⟨_, rfl, hE1, hB⟩

set_option maxRecDepth 20000 in
set_option maxHeartbeats 2000000 in
theorem kX12_choose_0 {K : KT} {G : St} {Q : Int32 → St → Prop} {x1 : Int32} (hL : Lay G.2.2) 
    (hB : EvI K mX12_isQuestion 6 0 [(0, .ref 66), (1, .int x1)] [] (uI G 66 0 0) (fun r1 G1 => ((¬ r1 = 0 → EvI K mX12_tablesOf 0 0 [(0, .ref 66), (1, .int x1)] [] G1 (fun r2 G2 => vp_in r2 7776 ∧ vp_in r2 7776 ∧ EvI K mX12_tablesOf 0 0 [(0, .ref 66), (1, .int x1)] [] (uI G2 99 (Int32.toNatClampNeg r2) ((sI G2 99 (Int32.toNatClampNeg r2)) + 1)) (fun r5 G5 => vp_in r5 7776 ∧ Q (sI G5 99 (Int32.toNatClampNeg r5)) G5))) ∧ (r1 = 0 → Q (-1) G1)))) :
    EvI K mX12_choose 7 0 [(0, .ref 66), (1, .int x1)] [] G Q := by
  refine E_aload_n 0 dX12_choose_0 rfl rfl rfl ?_
  refine E_iconst (v := 0) dX12_choose_1 (by decide) ?_
  refine E_pI fP_X12_1 rfl (lo_66 hL) dX12_choose_2 ?_
  refine E_aload_n 0 dX12_choose_5 rfl rfl rfl ?_
  refine E_iload_n 1 dX12_choose_6 rfl rfl ?_
  refine E_cV (ci := 11) (as := [.int x1]) (st := []) cm_X12_isQuestion cV_X12_417 ⟨_, _, rfl⟩ (by decide) (lo_66 hL) rfl rfl (by decide) (Nat.le_of_ble_eq_true rfl) (Nat.le_of_ble_eq_true rfl) dX12_choose_7 hB (fun r G1 hr => ?_)
  obtain ⟨r1, rfl, hE1, hB⟩ := hr
  have hL1 : Lay G1.2.2 := by rw [hE1]; exact hL
  have hE1 : G1.2.2 = G.2.2 := hE1
  show Ev K mX12_choose 7 10 [(0, .ref 66), (1, .int x1)] [.int r1] G1 _
  refine E_if_ne (tgt := 15) dX12_choose_10 (by decide) (fun c => ?_) (fun c => ?_)
  · have hB := hB.1 c
    refine E_aload_n 0 dX12_choose_15 rfl rfl rfl ?_
    refine E_gR (j := 99) fG_X12_137 rfl (lo_66 hL1) (lr_66_49 hL1) (by decide) dX12_choose_16 ?_
    refine E_aload_n 0 dX12_choose_19 rfl rfl rfl ?_
    refine E_iload_n 1 dX12_choose_20 rfl rfl ?_
    refine E_cV (ci := 11) (as := [.int x1]) (st := [.ref 99]) cm_X12_tablesOf cV_X12_400 ⟨_, _, rfl⟩ (by decide) (lo_66 hL1) rfl rfl (by decide) (Nat.le_of_ble_eq_true rfl) (Nat.le_of_ble_eq_true rfl) dX12_choose_21 hB (fun r G2 hr => ?_)
    obtain ⟨r2, rfl, hE2, hB⟩ := hr
    have hL2 : Lay G2.2.2 := by rw [hE2]; exact hL1
    have hE2 : G2.2.2 = G.2.2 := hE2.trans hE1
    show Ev K mX12_choose 7 24 [(0, .ref 66), (1, .int x1)] [.int r2, .ref 99] G2 _
    refine E_dup2 dX12_choose_24 rfl rfl ?_
    obtain ⟨qq3, hB⟩ := hB
    refine E_aI (p := Int32.toNatClampNeg r2) (v := sI G2 99 (Int32.toNatClampNeg r2)) (la_99 hL2) qq3 rfl rfl dX12_choose_25 ?_
    refine E_iconst (v := 1) dX12_choose_26 (by decide) ?_
    refine E_iadd dX12_choose_27 ?_
    obtain ⟨qq4, hB⟩ := hB
    refine E_sI (p := Int32.toNatClampNeg r2) (la_99 hL2) qq4 rfl dX12_choose_28 ?_
    refine E_aload_n 0 dX12_choose_29 rfl rfl rfl ?_
    refine E_gR (j := 99) fG_X12_137 rfl (lo_66 hL2) (lr_66_49 hL2) (by decide) dX12_choose_30 ?_
    refine E_aload_n 0 dX12_choose_33 rfl rfl rfl ?_
    refine E_iload_n 1 dX12_choose_34 rfl rfl ?_
    refine E_cV (ci := 11) (as := [.int x1]) (st := [.ref 99]) cm_X12_tablesOf cV_X12_400 ⟨_, _, rfl⟩ (by decide) (lo_66 hL2) rfl rfl (by decide) (Nat.le_of_ble_eq_true rfl) (Nat.le_of_ble_eq_true rfl) dX12_choose_35 hB (fun r G5 hr => ?_)
    obtain ⟨r5, rfl, hE5, hB⟩ := hr
    have hL5 : Lay G5.2.2 := by rw [hE5]; exact hL2
    have hE5 : G5.2.2 = G.2.2 := hE5.trans hE2
    show Ev K mX12_choose 7 38 [(0, .ref 66), (1, .int x1)] [.int r5, .ref 99] G5 _
    obtain ⟨qq6, hB⟩ := hB
    refine E_aI (p := Int32.toNatClampNeg r5) (v := sI G5 99 (Int32.toNatClampNeg r5)) (la_99 hL5) qq6 rfl rfl dX12_choose_38 ?_
    exact E_iret rfl dX12_choose_39 ⟨_, rfl, hE5, hB⟩
  · have hB := hB.2 c
    refine E_iconst (v := (-1)) dX12_choose_13 (by decide) ?_
    exact E_iret rfl dX12_choose_14 ⟨_, rfl, hE1, hB⟩

set_option maxRecDepth 20000 in
set_option maxHeartbeats 2000000 in
theorem kX12_filled_0 {K : KT} {G : St} {Q : Int64 → St → Prop} {y0 : Int64} (hL : Lay G.2.2) 
    (hB : EvI K mX12_lettersOf 0 0 [(0, .long y0)] [] G (fun r1 G1 => EvL K mX12_power 0 0 [(0, .int (8 - r1))] [] G1 (fun r2 G2 => Q (y0 * r2) G2))) :
    EvL K mX12_filled 1 0 [(0, .long y0)] [] G Q := by
  refine E_lload_n 0 dX12_filled_0 rfl rfl ?_
  refine E_bipush (v := 8) dX12_filled_1 (by decide) ?_
  refine E_lload_n 0 dX12_filled_3 rfl rfl ?_
  refine E_callS (as := [.long y0]) (st := [.int 8, .long y0]) cm_X12_lettersOf cS_X12_297 rfl rfl (by decide) (Nat.le_of_ble_eq_true rfl) (Nat.le_of_ble_eq_true rfl) dX12_filled_4 hB (fun r G1 hr => ?_)
  obtain ⟨r1, rfl, hE1, hB⟩ := hr
  have hL1 : Lay G1.2.2 := by rw [hE1]; exact hL
  have hE1 : G1.2.2 = G.2.2 := hE1
  show Ev K mX12_filled 1 7 [(0, .long y0)] [.int r1, .int 8, .long y0] G1 _
  refine E_isub dX12_filled_7 ?_
  refine E_callS (as := [.int (8 - r1)]) (st := [.long y0]) cm_X12_power cS_X12_293 rfl rfl (by decide) (Nat.le_of_ble_eq_true rfl) (Nat.le_of_ble_eq_true rfl) dX12_filled_8 hB (fun r G2 hr => ?_)
  obtain ⟨r2, rfl, hE2, hB⟩ := hr
  have hL2 : Lay G2.2.2 := by rw [hE2]; exact hL1
  have hE2 : G2.2.2 = G.2.2 := hE2.trans hE1
  show Ev K mX12_filled 1 11 [(0, .long y0)] [.long r2, .long y0] G2 _
  refine E_lmul dX12_filled_11 ?_
  exact E_lret rfl dX12_filled_12 ⟨_, rfl, hE2, hB⟩

set_option maxRecDepth 20000 in
set_option maxHeartbeats 2000000 in
theorem kX12_isTerm_0 {K : KT} {G : St} {Q : Int32 → St → Prop} {y1 : Int64} (hL : Lay G.2.2) 
    (hB : EvI K mX12_isTerm 0 5 [(0, .ref 66), (1, .long y1), (3, .int 0), (4, .int 0)] [] G Q) :
    EvI K mX12_isTerm 0 0 [(0, .ref 66), (1, .long y1)] [] G Q := by
  refine E_iconst (v := 0) dX12_isTerm_0 (by decide) ?_
  refine E_istore_n (lv' := [(0, .ref 66), (1, .long y1), (3, .int 0)]) dX12_isTerm_1 rfl (by decide) rfl ?_
  refine E_iconst (v := 0) dX12_isTerm_2 (by decide) ?_
  refine E_istore (lv' := [(0, .ref 66), (1, .long y1), (3, .int 0), (4, .int 0)]) dX12_isTerm_3 (by decide) rfl ?_
  exact EvI.tr hB rfl

set_option maxRecDepth 20000 in
set_option maxHeartbeats 2000000 in
theorem kX12_isTerm_5 {K : KT} {G : St} {Q : Int32 → St → Prop} {y1 : Int64} {x3 : Int32} {x4 : Int32} (hL : Lay G.2.2) 
    (hB : (((sI G 66 20) ≤ x4 → (x3 = 0 ∨ x3 = 1) ∧ Q x3 G) ∧ (¬ (sI G 66 20) ≤ x4 → ((¬ x3 = 0 → EvI K mX12_isTerm 0 45 [(0, .ref 66), (1, .long y1), (4, .int x4)] [.int 1] G Q) ∧ (x3 = 0 → vp_in x4 8 ∧ ((¬ (sI G 79 (Int32.toNatClampNeg x4)) = 0 → EvI K mX12_isTerm 0 44 [(0, .ref 66), (1, .long y1), (4, .int x4)] [] G Q) ∧ ((sI G 79 (Int32.toNatClampNeg x4)) = 0 → vp_in x4 8 ∧ ((¬ (sL G 80 (Int32.toNatClampNeg x4)) = y1 → EvI K mX12_isTerm 0 44 [(0, .ref 66), (1, .long y1), (4, .int x4)] [] G Q) ∧ ((sL G 80 (Int32.toNatClampNeg x4)) = y1 → EvI K mX12_isTerm 0 45 [(0, .ref 66), (1, .long y1), (4, .int x4)] [.int 1] G Q))))))))) :
    EvI K mX12_isTerm 0 5 [(0, .ref 66), (1, .long y1), (3, .int x3), (4, .int x4)] [] G Q := by
  refine E_iload 3 dX12_isTerm_5 rfl ?_
  refine E_aload_n 0 dX12_isTerm_7 rfl rfl rfl ?_
  refine E_gI (v := sI G 66 20) fG_X12_226 rfl (lo_66 hL) rfl dX12_isTerm_8 ?_
  refine E_icmp_ge (tgt := 52) dX12_isTerm_11 (by decide) (fun c => ?_) (fun c => ?_)
  · have hB := hB.1 c
    refine E_iload_n 2 dX12_isTerm_52 rfl rfl ?_
    obtain ⟨qq1, hB⟩ := hB
    exact E_zret rfl qq1 dX12_isTerm_53 ⟨_, rfl, rfl, hB⟩
  · have hB := hB.2 c
    refine E_iload_n 2 dX12_isTerm_14 rfl rfl ?_
    refine E_if_ne (tgt := 40) dX12_isTerm_15 (by decide) (fun c => ?_) (fun c => ?_)
    · have hB := hB.1 c
      refine E_iconst (v := 1) dX12_isTerm_40 (by decide) ?_
      refine E_goto (tgt := 45) dX12_isTerm_41 (by decide) ?_
      refine E_sub (lv' := [(0, .ref 66), (1, .long y1), (4, .int x4)]) [0, 1, 3] rfl ?_
      exact EvI.tr hB rfl
    · have hB := hB.2 c
      refine E_aload_n 0 dX12_isTerm_18 rfl rfl rfl ?_
      refine E_gR (j := 79) fG_X12_74 rfl (lo_66 hL) (lr_66_22 hL) (by decide) dX12_isTerm_19 ?_
      refine E_iload 3 dX12_isTerm_22 rfl ?_
      obtain ⟨qq2, hB⟩ := hB
      refine E_aI (p := Int32.toNatClampNeg x4) (v := sI G 79 (Int32.toNatClampNeg x4)) (la_79 hL) qq2 rfl rfl dX12_isTerm_24 ?_
      refine E_if_ne (tgt := 44) dX12_isTerm_25 (by decide) (fun c => ?_) (fun c => ?_)
      · have hB := hB.1 c
        refine E_sub (lv' := [(0, .ref 66), (1, .long y1), (4, .int x4)]) [0, 1, 3] rfl ?_
        exact EvI.tr hB rfl
      · have hB := hB.2 c
        refine E_aload_n 0 dX12_isTerm_28 rfl rfl rfl ?_
        refine E_gR (j := 80) fG_X12_77 rfl (lo_66 hL) (lr_66_23 hL) (by decide) dX12_isTerm_29 ?_
        refine E_iload 3 dX12_isTerm_32 rfl ?_
        obtain ⟨qq3, hB⟩ := hB
        refine E_aL (p := Int32.toNatClampNeg x4) (v := sL G 80 (Int32.toNatClampNeg x4)) (la_80 hL) qq3 rfl rfl dX12_isTerm_34 ?_
        refine E_lload_n 1 dX12_isTerm_35 rfl rfl ?_
        refine E_lcmp dX12_isTerm_36 ?_
        refine E_if_ne (tgt := 44) dX12_isTerm_37 (by decide) (fun c => ?_) (fun c => ?_)
        · have hB := hB.1 ((fun q => c ((lgc_eq (sL G 80 (Int32.toNatClampNeg x4)) y1).mpr q)))
          refine E_sub (lv' := [(0, .ref 66), (1, .long y1), (4, .int x4)]) [0, 1, 3] rfl ?_
          exact EvI.tr hB rfl
        · have hB := hB.2 ((lgc_eq (sL G 80 (Int32.toNatClampNeg x4)) y1).mp c)
          refine E_iconst (v := 1) dX12_isTerm_40 (by decide) ?_
          refine E_goto (tgt := 45) dX12_isTerm_41 (by decide) ?_
          refine E_sub (lv' := [(0, .ref 66), (1, .long y1), (4, .int x4)]) [0, 1, 3] rfl ?_
          exact EvI.tr hB rfl

set_option maxRecDepth 20000 in
set_option maxHeartbeats 2000000 in
theorem kX12_isTerm_44 {K : KT} {G : St} {Q : Int32 → St → Prop} {y1 : Int64} {x4 : Int32} (hL : Lay G.2.2) 
    (hB : EvI K mX12_isTerm 0 45 [(0, .ref 66), (1, .long y1), (4, .int x4)] [.int 0] G Q) :
    EvI K mX12_isTerm 0 44 [(0, .ref 66), (1, .long y1), (4, .int x4)] [] G Q := by
  refine E_iconst (v := 0) dX12_isTerm_44 (by decide) ?_
  exact EvI.tr hB rfl

set_option maxRecDepth 20000 in
set_option maxHeartbeats 2000000 in
theorem kX12_isTerm_45 {K : KT} {G : St} {Q : Int32 → St → Prop} {y1 : Int64} {x4 : Int32} {xs0 : Int32} (hL : Lay G.2.2) 
    (hB : EvI K mX12_isTerm 0 5 [(0, .ref 66), (1, .long y1), (3, .int xs0), (4, .int (x4 + 1))] [] G Q) :
    EvI K mX12_isTerm 0 45 [(0, .ref 66), (1, .long y1), (4, .int x4)] [.int xs0] G Q := by
  refine E_istore_n (lv' := [(0, .ref 66), (1, .long y1), (3, .int xs0), (4, .int x4)]) dX12_isTerm_45 rfl (by decide) rfl ?_
  refine E_iinc (v := x4 + 1) (lv' := [(0, .ref 66), (1, .long y1), (3, .int xs0), (4, .int (x4 + 1))]) 3 dX12_isTerm_46 rfl rfl (by decide) rfl ?_
  refine E_goto (tgt := 5) dX12_isTerm_49 (by decide) ?_
  exact EvI.tr hB rfl

set_option maxRecDepth 20000 in
set_option maxHeartbeats 2000000 in
theorem kX12_rowsWith_0 {K : KT} {G : St} {Q : Int32 → St → Prop} {y1 : Int64} (hL : Lay G.2.2) 
    (hB : EvI K mX12_rowsWith 2 5 [(0, .ref 66), (1, .long y1), (3, .int 0), (4, .int 0)] [] G Q) :
    EvI K mX12_rowsWith 2 0 [(0, .ref 66), (1, .long y1)] [] G Q := by
  refine E_iconst (v := 0) dX12_rowsWith_0 (by decide) ?_
  refine E_istore_n (lv' := [(0, .ref 66), (1, .long y1), (3, .int 0)]) dX12_rowsWith_1 rfl (by decide) rfl ?_
  refine E_iconst (v := 0) dX12_rowsWith_2 (by decide) ?_
  refine E_istore (lv' := [(0, .ref 66), (1, .long y1), (3, .int 0), (4, .int 0)]) dX12_rowsWith_3 (by decide) rfl ?_
  exact EvI.tr hB rfl

set_option maxRecDepth 20000 in
set_option maxHeartbeats 2000000 in
theorem kX12_rowsWith_5 {K : KT} {G : St} {Q : Int32 → St → Prop} {y1 : Int64} {x3 : Int32} {x4 : Int32} (hL : Lay G.2.2) 
    (hB : (((sI G 66 16) ≤ x4 → Q x3 G) ∧ (¬ (sI G 66 16) ≤ x4 → EvI K mX12_rowsWith 2 17 [(0, .ref 66), (1, .long y1), (3, .int x3), (4, .int x4), (5, .int 0)] [] G Q))) :
    EvI K mX12_rowsWith 2 5 [(0, .ref 66), (1, .long y1), (3, .int x3), (4, .int x4)] [] G Q := by
  refine E_iload 3 dX12_rowsWith_5 rfl ?_
  refine E_aload_n 0 dX12_rowsWith_7 rfl rfl rfl ?_
  refine E_gI (v := sI G 66 16) fG_X12_223 rfl (lo_66 hL) rfl dX12_rowsWith_8 ?_
  refine E_icmp_ge (tgt := 83) dX12_rowsWith_11 (by decide) (fun c => ?_) (fun c => ?_)
  · have hB := hB.1 c
    refine E_iload_n 2 dX12_rowsWith_83 rfl rfl ?_
    exact E_iret rfl dX12_rowsWith_84 ⟨_, rfl, rfl, hB⟩
  · have hB := hB.2 c
    refine E_iconst (v := 0) dX12_rowsWith_14 (by decide) ?_
    refine E_istore (lv' := [(0, .ref 66), (1, .long y1), (3, .int x3), (4, .int x4), (5, .int 0)]) dX12_rowsWith_15 (by decide) rfl ?_
    exact EvI.tr hB rfl

set_option maxRecDepth 20000 in
set_option maxHeartbeats 2000000 in
theorem kX12_rowsWith_17 {K : KT} {G : St} {Q : Int32 → St → Prop} {y1 : Int64} {x3 : Int32} {x4 : Int32} {x5 : Int32} (hL : Lay G.2.2) 
    (hB : ((4 ≤ x5 → EvI K mX12_rowsWith 2 77 [(0, .ref 66), (1, .long y1), (3, .int x3), (4, .int x4)] [] G Q) ∧ (¬ 4 ≤ x5 → EvI K mX12_isSeen 1 0 [(0, .ref 66), (1, .int x4)] [] G (fun r1 G1 => ((r1 = 0 → EvI K mX12_rowsWith 2 77 [(0, .ref 66), (1, .long y1), (3, .int x3), (4, .int x4)] [] G1 Q) ∧ (¬ r1 = 0 → EvI K mX12_isText 1 0 [(0, .ref 66), (1, .int x4), (2, .int x5)] [] G1 (fun r2 G2 => ((r2 = 0 → EvI K mX12_rowsWith 2 68 [(0, .ref 66), (1, .long y1), (4, .int x4), (5, .int x5)] [.int x3] G2 Q) ∧ (¬ r2 = 0 → vp_in ((4 * x4) + x5) 124 ∧ ((¬ (sL G2 78 (Int32.toNatClampNeg ((4 * x4) + x5))) = y1 → EvI K mX12_rowsWith 2 68 [(0, .ref 66), (1, .long y1), (4, .int x4), (5, .int x5)] [.int x3] G2 Q) ∧ ((sL G2 78 (Int32.toNatClampNeg ((4 * x4) + x5))) = y1 → EvI K mX12_rowsWith 2 69 [(0, .ref 66), (1, .long y1), (4, .int x4), (5, .int x5)] [.int (1 <<< (x4 &&& 31)), .int x3] G2 Q))))))))))) :
    EvI K mX12_rowsWith 2 17 [(0, .ref 66), (1, .long y1), (3, .int x3), (4, .int x4), (5, .int x5)] [] G Q := by
  refine E_iload 4 dX12_rowsWith_17 rfl ?_
  refine E_iconst (v := 4) dX12_rowsWith_19 (by decide) ?_
  refine E_icmp_ge (tgt := 77) dX12_rowsWith_20 (by decide) (fun c => ?_) (fun c => ?_)
  · have hB := hB.1 c
    refine E_sub (lv' := [(0, .ref 66), (1, .long y1), (3, .int x3), (4, .int x4)]) [0, 1, 2, 3] rfl ?_
    exact EvI.tr hB rfl
  · have hB := hB.2 c
    refine E_aload_n 0 dX12_rowsWith_23 rfl rfl rfl ?_
    refine E_iload 3 dX12_rowsWith_24 rfl ?_
    refine E_cV (ci := 11) (as := [.int x4]) (st := []) cm_X12_isSeen cV_X12_287 ⟨_, _, rfl⟩ (by decide) (lo_66 hL) rfl rfl (by decide) (Nat.le_of_ble_eq_true rfl) (Nat.le_of_ble_eq_true rfl) dX12_rowsWith_26 hB (fun r G1 hr => ?_)
    obtain ⟨r1, rfl, hE1, hB⟩ := hr
    have hL1 : Lay G1.2.2 := by rw [hE1]; exact hL
    have hE1 : G1.2.2 = G.2.2 := hE1
    show Ev K mX12_rowsWith 2 29 [(0, .ref 66), (1, .long y1), (3, .int x3), (4, .int x4), (5, .int x5)] [.int r1] G1 _
    refine E_if_eq (tgt := 77) dX12_rowsWith_29 (by decide) (fun c => ?_) (fun c => ?_)
    · have hB := hB.1 c
      refine E_sub (lv' := [(0, .ref 66), (1, .long y1), (3, .int x3), (4, .int x4)]) [0, 1, 2, 3] rfl ?_
      exact EvI.tr hB hE1
    · have hB := hB.2 c
      refine E_iload_n 2 dX12_rowsWith_32 rfl rfl ?_
      refine E_aload_n 0 dX12_rowsWith_33 rfl rfl rfl ?_
      refine E_iload 3 dX12_rowsWith_34 rfl ?_
      refine E_iload 4 dX12_rowsWith_36 rfl ?_
      refine E_cV (ci := 11) (as := [.int x4, .int x5]) (st := [.int x3]) cm_X12_isText cV_X12_426 ⟨_, _, rfl⟩ (by decide) (lo_66 hL1) rfl rfl (by decide) (Nat.le_of_ble_eq_true rfl) (Nat.le_of_ble_eq_true rfl) dX12_rowsWith_38 hB (fun r G2 hr => ?_)
      obtain ⟨r2, rfl, hE2, hB⟩ := hr
      have hL2 : Lay G2.2.2 := by rw [hE2]; exact hL1
      have hE2 : G2.2.2 = G.2.2 := hE2.trans hE1
      show Ev K mX12_rowsWith 2 41 [(0, .ref 66), (1, .long y1), (3, .int x3), (4, .int x4), (5, .int x5)] [.int r2, .int x3] G2 _
      refine E_if_eq (tgt := 68) dX12_rowsWith_41 (by decide) (fun c => ?_) (fun c => ?_)
      · have hB := hB.1 c
        refine E_sub (lv' := [(0, .ref 66), (1, .long y1), (4, .int x4), (5, .int x5)]) [0, 1, 3, 4] rfl ?_
        exact EvI.tr hB hE2
      · have hB := hB.2 c
        refine E_aload_n 0 dX12_rowsWith_44 rfl rfl rfl ?_
        refine E_gR (j := 78) fG_X12_71 rfl (lo_66 hL2) (lr_66_19 hL2) (by decide) dX12_rowsWith_45 ?_
        refine E_iconst (v := 4) dX12_rowsWith_48 (by decide) ?_
        refine E_iload 3 dX12_rowsWith_49 rfl ?_
        refine E_imul dX12_rowsWith_51 ?_
        refine E_iload 4 dX12_rowsWith_52 rfl ?_
        refine E_iadd dX12_rowsWith_54 ?_
        obtain ⟨qq3, hB⟩ := hB
        refine E_aL (p := Int32.toNatClampNeg ((4 * x4) + x5)) (v := sL G2 78 (Int32.toNatClampNeg ((4 * x4) + x5))) (la_78 hL2) qq3 rfl rfl dX12_rowsWith_55 ?_
        refine E_lload_n 1 dX12_rowsWith_56 rfl rfl ?_
        refine E_lcmp dX12_rowsWith_57 ?_
        refine E_if_ne (tgt := 68) dX12_rowsWith_58 (by decide) (fun c => ?_) (fun c => ?_)
        · have hB := hB.1 ((fun q => c ((lgc_eq (sL G2 78 (Int32.toNatClampNeg ((4 * x4) + x5))) y1).mpr q)))
          refine E_sub (lv' := [(0, .ref 66), (1, .long y1), (4, .int x4), (5, .int x5)]) [0, 1, 3, 4] rfl ?_
          exact EvI.tr hB hE2
        · have hB := hB.2 ((lgc_eq (sL G2 78 (Int32.toNatClampNeg ((4 * x4) + x5))) y1).mp c)
          refine E_iconst (v := 1) dX12_rowsWith_61 (by decide) ?_
          refine E_iload 3 dX12_rowsWith_62 rfl ?_
          refine E_ishl dX12_rowsWith_64 ?_
          refine E_goto (tgt := 69) dX12_rowsWith_65 (by decide) ?_
          refine E_sub (lv' := [(0, .ref 66), (1, .long y1), (4, .int x4), (5, .int x5)]) [0, 1, 3, 4] rfl ?_
          exact EvI.tr hB hE2

set_option maxRecDepth 20000 in
set_option maxHeartbeats 2000000 in
theorem kX12_rowsWith_68 {K : KT} {G : St} {Q : Int32 → St → Prop} {y1 : Int64} {x4 : Int32} {x5 : Int32} {xs0 : Int32} (hL : Lay G.2.2) 
    (hB : EvI K mX12_rowsWith 2 69 [(0, .ref 66), (1, .long y1), (4, .int x4), (5, .int x5)] [.int 0, .int xs0] G Q) :
    EvI K mX12_rowsWith 2 68 [(0, .ref 66), (1, .long y1), (4, .int x4), (5, .int x5)] [.int xs0] G Q := by
  refine E_iconst (v := 0) dX12_rowsWith_68 (by decide) ?_
  exact EvI.tr hB rfl

set_option maxRecDepth 20000 in
set_option maxHeartbeats 2000000 in
theorem kX12_rowsWith_69 {K : KT} {G : St} {Q : Int32 → St → Prop} {y1 : Int64} {x4 : Int32} {x5 : Int32} {xs0 : Int32} {xs1 : Int32} (hL : Lay G.2.2) 
    (hB : EvI K mX12_rowsWith 2 17 [(0, .ref 66), (1, .long y1), (3, .int (xs0 ||| xs1)), (4, .int x4), (5, .int (x5 + 1))] [] G Q) :
    EvI K mX12_rowsWith 2 69 [(0, .ref 66), (1, .long y1), (4, .int x4), (5, .int x5)] [.int xs1, .int xs0] G Q := by
  refine E_ior dX12_rowsWith_69 ?_
  refine E_istore_n (lv' := [(0, .ref 66), (1, .long y1), (3, .int (xs0 ||| xs1)), (4, .int x4), (5, .int x5)]) dX12_rowsWith_70 rfl (by decide) rfl ?_
  refine E_iinc (v := x5 + 1) (lv' := [(0, .ref 66), (1, .long y1), (3, .int (xs0 ||| xs1)), (4, .int x4), (5, .int (x5 + 1))]) 4 dX12_rowsWith_71 rfl rfl (by decide) rfl ?_
  refine E_goto (tgt := 17) dX12_rowsWith_74 (by decide) ?_
  exact EvI.tr hB rfl

set_option maxRecDepth 20000 in
set_option maxHeartbeats 2000000 in
theorem kX12_rowsWith_77 {K : KT} {G : St} {Q : Int32 → St → Prop} {y1 : Int64} {x3 : Int32} {x4 : Int32} (hL : Lay G.2.2) 
    (hB : EvI K mX12_rowsWith 2 5 [(0, .ref 66), (1, .long y1), (3, .int x3), (4, .int (x4 + 1))] [] G Q) :
    EvI K mX12_rowsWith 2 77 [(0, .ref 66), (1, .long y1), (3, .int x3), (4, .int x4)] [] G Q := by
  refine E_iinc (v := x4 + 1) (lv' := [(0, .ref 66), (1, .long y1), (3, .int x3), (4, .int (x4 + 1))]) 3 dX12_rowsWith_77 rfl rfl (by decide) rfl ?_
  refine E_goto (tgt := 5) dX12_rowsWith_80 (by decide) ?_
  exact EvI.tr hB rfl

set_option maxRecDepth 20000 in
set_option maxHeartbeats 2000000 in
theorem kX12_findParts_0 {K : KT} {G : St} {Q : St → Prop}  (hL : Lay G.2.2) 
    (hB : EvV K mX12_findParts 3 14 [(0, .ref 66), (1, .int 0)] [] (uI (uL G 66 52 (-1)) 66 53 0) Q) :
    EvV K mX12_findParts 3 0 [(0, .ref 66)] [] G Q := by
  refine E_aload_n 0 dX12_findParts_0 rfl rfl rfl ?_
  refine E_ldc2 (v := (-1)) tm_1559 dX12_findParts_1 ?_
  refine E_pL fP_X12_429 rfl (lo_66 hL) dX12_findParts_4 ?_
  refine E_aload_n 0 dX12_findParts_7 rfl rfl rfl ?_
  refine E_iconst (v := 0) dX12_findParts_8 (by decide) ?_
  refine E_pI fP_X12_433 rfl (lo_66 hL) dX12_findParts_9 ?_
  refine E_iconst (v := 0) dX12_findParts_12 (by decide) ?_
  refine E_istore_n (lv' := [(0, .ref 66), (1, .int 0)]) dX12_findParts_13 rfl (by decide) rfl ?_
  exact EvV.tr hB rfl

set_option maxRecDepth 20000 in
set_option maxHeartbeats 2000000 in
theorem kX12_findParts_14 {K : KT} {G : St} {Q : St → Prop} {x1 : Int32} (hL : Lay G.2.2) 
    (hB : (((4 * (sI G 66 16)) ≤ x1 → Q G) ∧ (¬ (4 * (sI G 66 16)) ≤ x1 → vp_in x1 124 ∧ EvI K mX12_isSeen 1 0 [(0, .ref 66), (1, .int (x1 / 4))] [] G (fun r2 G2 => ((r2 = 0 → EvV K mX12_findParts 3 223 [(0, .ref 66), (1, .int x1)] [] G2 Q) ∧ (¬ r2 = 0 → EvI K mX12_isText 1 0 [(0, .ref 66), (1, .int (x1 / 4)), (2, .int (x1 - x1 / 4 * 4))] [] G2 (fun r3 G3 => ((r3 = 0 → EvV K mX12_findParts 3 223 [(0, .ref 66), (1, .int x1)] [] G3 Q) ∧ (¬ r3 = 0 → EvI K mX12_isTerm 0 0 [(0, .ref 66), (1, .long (sL G 78 (Int32.toNatClampNeg x1)))] [] G3 (fun r4 G4 => ((¬ r4 = 0 → EvV K mX12_findParts 3 223 [(0, .ref 66), (1, .int x1)] [] G4 Q) ∧ (r4 = 0 → EvI K mX12_rowsWith 2 0 [(0, .ref 66), (1, .long (sL G 78 (Int32.toNatClampNeg x1)))] [] G4 (fun r5 G5 => EvV K mX12_findParts 3 75 [(0, .ref 66), (1, .int x1), (2, .long (sL G 78 (Int32.toNatClampNeg x1))), (4, .int r5), (5, .int 0), (6, .int 0)] [] G5 Q))))))))))))) :
    EvV K mX12_findParts 3 14 [(0, .ref 66), (1, .int x1)] [] G Q := by
  refine E_iload_n 1 dX12_findParts_14 rfl rfl ?_
  refine E_iconst (v := 4) dX12_findParts_15 (by decide) ?_
  refine E_aload_n 0 dX12_findParts_16 rfl rfl rfl ?_
  refine E_gI (v := sI G 66 16) fG_X12_223 rfl (lo_66 hL) rfl dX12_findParts_17 ?_
  refine E_imul dX12_findParts_20 ?_
  refine E_icmp_ge (tgt := 229) dX12_findParts_21 (by decide) (fun c => ?_) (fun c => ?_)
  · have hB := hB.1 c
    exact E_vret rfl dX12_findParts_229 ⟨rfl, rfl, hB⟩
  · have hB := hB.2 c
    refine E_aload_n 0 dX12_findParts_24 rfl rfl rfl ?_
    refine E_gR (j := 78) fG_X12_71 rfl (lo_66 hL) (lr_66_19 hL) (by decide) dX12_findParts_25 ?_
    refine E_iload_n 1 dX12_findParts_28 rfl rfl ?_
    obtain ⟨qq1, hB⟩ := hB
    refine E_aL (p := Int32.toNatClampNeg x1) (v := sL G 78 (Int32.toNatClampNeg x1)) (la_78 hL) qq1 rfl rfl dX12_findParts_29 ?_
    refine E_lstore_n (lv' := [(0, .ref 66), (1, .int x1), (2, .long (sL G 78 (Int32.toNatClampNeg x1)))]) dX12_findParts_30 rfl (by decide) rfl ?_
    refine E_aload_n 0 dX12_findParts_31 rfl rfl rfl ?_
    refine E_iload_n 1 dX12_findParts_32 rfl rfl ?_
    refine E_iconst (v := 4) dX12_findParts_33 (by decide) ?_
    refine E_idiv dX12_findParts_34 (by decide) ?_
    refine E_cV (ci := 11) (as := [.int (x1 / 4)]) (st := []) cm_X12_isSeen cV_X12_287 ⟨_, _, rfl⟩ (by decide) (lo_66 hL) rfl rfl (by decide) (Nat.le_of_ble_eq_true rfl) (Nat.le_of_ble_eq_true rfl) dX12_findParts_35 hB (fun r G2 hr => ?_)
    obtain ⟨r2, rfl, hE2, hB⟩ := hr
    have hL2 : Lay G2.2.2 := by rw [hE2]; exact hL
    have hE2 : G2.2.2 = G.2.2 := hE2
    show Ev K mX12_findParts 3 38 [(0, .ref 66), (1, .int x1), (2, .long (sL G 78 (Int32.toNatClampNeg x1)))] [.int r2] G2 _
    refine E_if_eq (tgt := 223) dX12_findParts_38 (by decide) (fun c => ?_) (fun c => ?_)
    · have hB := hB.1 c
      refine E_sub (lv' := [(0, .ref 66), (1, .int x1)]) [0, 1] rfl ?_
      exact EvV.tr hB hE2
    · have hB := hB.2 c
      refine E_aload_n 0 dX12_findParts_41 rfl rfl rfl ?_
      refine E_iload_n 1 dX12_findParts_42 rfl rfl ?_
      refine E_iconst (v := 4) dX12_findParts_43 (by decide) ?_
      refine E_idiv dX12_findParts_44 (by decide) ?_
      refine E_iload_n 1 dX12_findParts_45 rfl rfl ?_
      refine E_iconst (v := 4) dX12_findParts_46 (by decide) ?_
      refine E_irem dX12_findParts_47 (by decide) ?_
      refine E_cV (ci := 11) (as := [.int (x1 / 4), .int (x1 - x1 / 4 * 4)]) (st := []) cm_X12_isText cV_X12_426 ⟨_, _, rfl⟩ (by decide) (lo_66 hL2) rfl rfl (by decide) (Nat.le_of_ble_eq_true rfl) (Nat.le_of_ble_eq_true rfl) dX12_findParts_48 hB (fun r G3 hr => ?_)
      obtain ⟨r3, rfl, hE3, hB⟩ := hr
      have hL3 : Lay G3.2.2 := by rw [hE3]; exact hL2
      have hE3 : G3.2.2 = G.2.2 := hE3.trans hE2
      show Ev K mX12_findParts 3 51 [(0, .ref 66), (1, .int x1), (2, .long (sL G 78 (Int32.toNatClampNeg x1)))] [.int r3] G3 _
      refine E_if_eq (tgt := 223) dX12_findParts_51 (by decide) (fun c => ?_) (fun c => ?_)
      · have hB := hB.1 c
        refine E_sub (lv' := [(0, .ref 66), (1, .int x1)]) [0, 1] rfl ?_
        exact EvV.tr hB hE3
      · have hB := hB.2 c
        refine E_aload_n 0 dX12_findParts_54 rfl rfl rfl ?_
        refine E_lload_n 2 dX12_findParts_55 rfl rfl ?_
        refine E_cV (ci := 11) (as := [.long (sL G 78 (Int32.toNatClampNeg x1))]) (st := []) cm_X12_isTerm cV_X12_436 ⟨_, _, rfl⟩ (by decide) (lo_66 hL3) rfl rfl (by decide) (Nat.le_of_ble_eq_true rfl) (Nat.le_of_ble_eq_true rfl) dX12_findParts_56 hB (fun r G4 hr => ?_)
        obtain ⟨r4, rfl, hE4, hB⟩ := hr
        have hL4 : Lay G4.2.2 := by rw [hE4]; exact hL3
        have hE4 : G4.2.2 = G.2.2 := hE4.trans hE3
        show Ev K mX12_findParts 3 59 [(0, .ref 66), (1, .int x1), (2, .long (sL G 78 (Int32.toNatClampNeg x1)))] [.int r4] G4 _
        refine E_if_ne (tgt := 223) dX12_findParts_59 (by decide) (fun c => ?_) (fun c => ?_)
        · have hB := hB.1 c
          refine E_sub (lv' := [(0, .ref 66), (1, .int x1)]) [0, 1] rfl ?_
          exact EvV.tr hB hE4
        · have hB := hB.2 c
          refine E_aload_n 0 dX12_findParts_62 rfl rfl rfl ?_
          refine E_lload_n 2 dX12_findParts_63 rfl rfl ?_
          refine E_cV (ci := 11) (as := [.long (sL G 78 (Int32.toNatClampNeg x1))]) (st := []) cm_X12_rowsWith cV_X12_440 ⟨_, _, rfl⟩ (by decide) (lo_66 hL4) rfl rfl (by decide) (Nat.le_of_ble_eq_true rfl) (Nat.le_of_ble_eq_true rfl) dX12_findParts_64 hB (fun r G5 hr => ?_)
          obtain ⟨r5, rfl, hE5, hB⟩ := hr
          have hL5 : Lay G5.2.2 := by rw [hE5]; exact hL4
          have hE5 : G5.2.2 = G.2.2 := hE5.trans hE4
          show Ev K mX12_findParts 3 67 [(0, .ref 66), (1, .int x1), (2, .long (sL G 78 (Int32.toNatClampNeg x1)))] [.int r5] G5 _
          refine E_istore (lv' := [(0, .ref 66), (1, .int x1), (2, .long (sL G 78 (Int32.toNatClampNeg x1))), (4, .int r5)]) dX12_findParts_67 (by decide) rfl ?_
          refine E_iconst (v := 0) dX12_findParts_69 (by decide) ?_
          refine E_istore (lv' := [(0, .ref 66), (1, .int x1), (2, .long (sL G 78 (Int32.toNatClampNeg x1))), (4, .int r5), (5, .int 0)]) dX12_findParts_70 (by decide) rfl ?_
          refine E_iconst (v := 0) dX12_findParts_72 (by decide) ?_
          refine E_istore (lv' := [(0, .ref 66), (1, .int x1), (2, .long (sL G 78 (Int32.toNatClampNeg x1))), (4, .int r5), (5, .int 0), (6, .int 0)]) dX12_findParts_73 (by decide) rfl ?_
          exact EvV.tr hB hE5

set_option maxRecDepth 20000 in
set_option maxHeartbeats 2000000 in
theorem kX12_findParts_75 {K : KT} {G : St} {Q : St → Prop} {x1 : Int32} {y2 : Int64} {x4 : Int32} {x5 : Int32} {x6 : Int32} (hL : Lay G.2.2) 
    (hB : (((sI G 66 38) ≤ x6 → EvV K mX12_findParts 3 127 [(0, .ref 66), (1, .int x1), (2, .long y2), (5, .int x5)] [] G Q) ∧ (¬ (sI G 66 38) ≤ x6 → ((¬ (x4 &&& (-x4)) = (1 <<< ((x1 / 4) &&& 31)) → EvV K mX12_findParts 3 127 [(0, .ref 66), (1, .int x1), (2, .long y2), (5, .int x5)] [] G Q) ∧ ((x4 &&& (-x4)) = (1 <<< ((x1 / 4) &&& 31)) → vp_in x6 175000 ∧ ((((sI G 90 (Int32.toNatClampNeg x6)) &&& x4) = 0 → EvV K mX12_findParts 3 118 [(0, .ref 66), (1, .int x1), (2, .long y2), (4, .int x4), (6, .int x6)] [.int 0, .int x5] G Q) ∧ (¬ ((sI G 90 (Int32.toNatClampNeg x6)) &&& x4) = 0 → EvV K mX12_findParts 3 118 [(0, .ref 66), (1, .int x1), (2, .long y2), (4, .int x4), (6, .int x6)] [.int 1, .int x5] G Q))))))) :
    EvV K mX12_findParts 3 75 [(0, .ref 66), (1, .int x1), (2, .long y2), (4, .int x4), (5, .int x5), (6, .int x6)] [] G Q := by
  refine E_iload 5 dX12_findParts_75 rfl ?_
  refine E_aload_n 0 dX12_findParts_77 rfl rfl rfl ?_
  refine E_gI (v := sI G 66 38) fG_X12_366 rfl (lo_66 hL) rfl dX12_findParts_78 ?_
  refine E_icmp_ge (tgt := 127) dX12_findParts_81 (by decide) (fun c => ?_) (fun c => ?_)
  · have hB := hB.1 c
    refine E_sub (lv' := [(0, .ref 66), (1, .int x1), (2, .long y2), (5, .int x5)]) [0, 1, 2, 4] rfl ?_
    exact EvV.tr hB rfl
  · have hB := hB.2 c
    refine E_iload 3 dX12_findParts_84 rfl ?_
    refine E_iload 3 dX12_findParts_86 rfl ?_
    refine E_ineg dX12_findParts_88 ?_
    refine E_iand dX12_findParts_89 ?_
    refine E_iconst (v := 1) dX12_findParts_90 (by decide) ?_
    refine E_iload_n 1 dX12_findParts_91 rfl rfl ?_
    refine E_iconst (v := 4) dX12_findParts_92 (by decide) ?_
    refine E_idiv dX12_findParts_93 (by decide) ?_
    refine E_ishl dX12_findParts_94 ?_
    refine E_icmp_ne (tgt := 127) dX12_findParts_95 (by decide) (fun c => ?_) (fun c => ?_)
    · have hB := hB.1 c
      refine E_sub (lv' := [(0, .ref 66), (1, .int x1), (2, .long y2), (5, .int x5)]) [0, 1, 2, 4] rfl ?_
      exact EvV.tr hB rfl
    · have hB := hB.2 c
      refine E_iload 4 dX12_findParts_98 rfl ?_
      refine E_aload_n 0 dX12_findParts_100 rfl rfl rfl ?_
      refine E_gR (j := 90) fG_X12_109 rfl (lo_66 hL) (lr_66_39 hL) (by decide) dX12_findParts_101 ?_
      refine E_iload 5 dX12_findParts_104 rfl ?_
      obtain ⟨qq1, hB⟩ := hB
      refine E_aI (p := Int32.toNatClampNeg x6) (v := sI G 90 (Int32.toNatClampNeg x6)) (la_90 hL) qq1 rfl rfl dX12_findParts_106 ?_
      refine E_iload 3 dX12_findParts_107 rfl ?_
      refine E_iand dX12_findParts_109 ?_
      refine E_if_eq (tgt := 117) dX12_findParts_110 (by decide) (fun c => ?_) (fun c => ?_)
      · have hB := hB.1 c
        refine E_iconst (v := 0) dX12_findParts_117 (by decide) ?_
        refine E_sub (lv' := [(0, .ref 66), (1, .int x1), (2, .long y2), (4, .int x4), (6, .int x6)]) [0, 1, 2, 3, 5] rfl ?_
        exact EvV.tr hB rfl
      · have hB := hB.2 c
        refine E_iconst (v := 1) dX12_findParts_113 (by decide) ?_
        refine E_goto (tgt := 118) dX12_findParts_114 (by decide) ?_
        refine E_sub (lv' := [(0, .ref 66), (1, .int x1), (2, .long y2), (4, .int x4), (6, .int x6)]) [0, 1, 2, 3, 5] rfl ?_
        exact EvV.tr hB rfl

set_option maxRecDepth 20000 in
set_option maxHeartbeats 2000000 in
theorem kX12_findParts_118 {K : KT} {G : St} {Q : St → Prop} {x1 : Int32} {y2 : Int64} {x4 : Int32} {x6 : Int32} {xs0 : Int32} {xs1 : Int32} (hL : Lay G.2.2) 
    (hB : EvV K mX12_findParts 3 75 [(0, .ref 66), (1, .int x1), (2, .long y2), (4, .int x4), (5, .int (xs0 + xs1)), (6, .int (x6 + 1))] [] G Q) :
    EvV K mX12_findParts 3 118 [(0, .ref 66), (1, .int x1), (2, .long y2), (4, .int x4), (6, .int x6)] [.int xs1, .int xs0] G Q := by
  refine E_iadd dX12_findParts_118 ?_
  refine E_istore (lv' := [(0, .ref 66), (1, .int x1), (2, .long y2), (4, .int x4), (5, .int (xs0 + xs1)), (6, .int x6)]) dX12_findParts_119 (by decide) rfl ?_
  refine E_iinc (v := x6 + 1) (lv' := [(0, .ref 66), (1, .int x1), (2, .long y2), (4, .int x4), (5, .int (xs0 + xs1)), (6, .int (x6 + 1))]) 5 dX12_findParts_121 rfl rfl (by decide) rfl ?_
  refine E_goto (tgt := 75) dX12_findParts_124 (by decide) ?_
  exact EvV.tr hB rfl

set_option maxRecDepth 20000 in
set_option maxHeartbeats 2000000 in
theorem kX12_findParts_127 {K : KT} {G : St} {Q : St → Prop} {x1 : Int32} {y2 : Int64} {x5 : Int32} (hL : Lay G.2.2) 
    (hB : ((x5 ≤ ((sI G 66 38) - x5) → EvV K mX12_findParts 3 151 [(0, .ref 66), (1, .int x1), (2, .long y2), (5, .int x5)] [.int ((sI G 66 38) - x5)] G Q) ∧ (¬ x5 ≤ ((sI G 66 38) - x5) → EvV K mX12_findParts 3 151 [(0, .ref 66), (1, .int x1), (2, .long y2), (5, .int x5)] [.int x5] G Q))) :
    EvV K mX12_findParts 3 127 [(0, .ref 66), (1, .int x1), (2, .long y2), (5, .int x5)] [] G Q := by
  refine E_iload 3 dX12_findParts_127 rfl ?_
  refine E_aload_n 0 dX12_findParts_129 rfl rfl rfl ?_
  refine E_gI (v := sI G 66 38) fG_X12_366 rfl (lo_66 hL) rfl dX12_findParts_130 ?_
  refine E_iload 3 dX12_findParts_133 rfl ?_
  refine E_isub dX12_findParts_135 ?_
  refine E_icmp_le (tgt := 144) dX12_findParts_136 (by decide) (fun c => ?_) (fun c => ?_)
  · have hB := hB.1 c
    refine E_aload_n 0 dX12_findParts_144 rfl rfl rfl ?_
    refine E_gI (v := sI G 66 38) fG_X12_366 rfl (lo_66 hL) rfl dX12_findParts_145 ?_
    refine E_iload 3 dX12_findParts_148 rfl ?_
    refine E_isub dX12_findParts_150 ?_
    exact EvV.tr hB rfl
  · have hB := hB.2 c
    refine E_iload 3 dX12_findParts_139 rfl ?_
    refine E_goto (tgt := 151) dX12_findParts_141 (by decide) ?_
    exact EvV.tr hB rfl

set_option maxRecDepth 20000 in
set_option maxHeartbeats 2000000 in
theorem kX12_findParts_151 {K : KT} {G : St} {Q : St → Prop} {x1 : Int32} {y2 : Int64} {x5 : Int32} {xs0 : Int32} (hL : Lay G.2.2) 
    (hB : (((sL G 66 52) < 0 → EvV K mX12_findParts 3 200 [(0, .ref 66), (1, .int x1), (2, .long y2), (5, .int x5), (6, .int xs0)] [.int 1] G Q) ∧ (¬ (sL G 66 52) < 0 → ((xs0 < (sI G 66 53) → EvV K mX12_findParts 3 200 [(0, .ref 66), (1, .int x1), (2, .long y2), (5, .int x5), (6, .int xs0)] [.int 1] G Q) ∧ (¬ xs0 < (sI G 66 53) → ((¬ xs0 = (sI G 66 53) → EvV K mX12_findParts 3 199 [(0, .ref 66), (1, .int x1), (2, .long y2), (5, .int x5), (6, .int xs0)] [] G Q) ∧ (xs0 = (sI G 66 53) → EvL K mX12_filled 1 0 [(0, .long y2)] [] G (fun r1 G1 => EvL K mX12_filled 1 0 [(0, .long (sL G1 66 52))] [] G1 (fun r2 G2 => ((¬ r1 < r2 → EvV K mX12_findParts 3 199 [(0, .ref 66), (1, .int x1), (2, .long y2), (5, .int x5), (6, .int xs0)] [] G2 Q) ∧ (r1 < r2 → EvV K mX12_findParts 3 200 [(0, .ref 66), (1, .int x1), (2, .long y2), (5, .int x5), (6, .int xs0)] [.int 1] G2 Q))))))))))) :
    EvV K mX12_findParts 3 151 [(0, .ref 66), (1, .int x1), (2, .long y2), (5, .int x5)] [.int xs0] G Q := by
  refine E_istore (lv' := [(0, .ref 66), (1, .int x1), (2, .long y2), (5, .int x5), (6, .int xs0)]) dX12_findParts_151 (by decide) rfl ?_
  refine E_aload_n 0 dX12_findParts_153 rfl rfl rfl ?_
  refine E_gL (v := sL G 66 52) fG_X12_429 rfl (lo_66 hL) rfl dX12_findParts_154 ?_
  refine E_lconst (v := 0) dX12_findParts_157 (by decide) ?_
  refine E_lcmp dX12_findParts_158 ?_
  refine E_if_lt (tgt := 195) dX12_findParts_159 (by decide) (fun c => ?_) (fun c => ?_)
  · have hB := hB.1 ((lgc_lt (sL G 66 52) 0).mp c)
    refine E_iconst (v := 1) dX12_findParts_195 (by decide) ?_
    refine E_goto (tgt := 200) dX12_findParts_196 (by decide) ?_
    exact EvV.tr hB rfl
  · have hB := hB.2 (fun q => c ((lgc_lt (sL G 66 52) 0).mpr q))
    refine E_iload 4 dX12_findParts_162 rfl ?_
    refine E_aload_n 0 dX12_findParts_164 rfl rfl rfl ?_
    refine E_gI (v := sI G 66 53) fG_X12_433 rfl (lo_66 hL) rfl dX12_findParts_165 ?_
    refine E_icmp_lt (tgt := 195) dX12_findParts_168 (by decide) (fun c => ?_) (fun c => ?_)
    · have hB := hB.1 c
      refine E_iconst (v := 1) dX12_findParts_195 (by decide) ?_
      refine E_goto (tgt := 200) dX12_findParts_196 (by decide) ?_
      exact EvV.tr hB rfl
    · have hB := hB.2 c
      refine E_iload 4 dX12_findParts_171 rfl ?_
      refine E_aload_n 0 dX12_findParts_173 rfl rfl rfl ?_
      refine E_gI (v := sI G 66 53) fG_X12_433 rfl (lo_66 hL) rfl dX12_findParts_174 ?_
      refine E_icmp_ne (tgt := 199) dX12_findParts_177 (by decide) (fun c => ?_) (fun c => ?_)
      · have hB := hB.1 c
        exact EvV.tr hB rfl
      · have hB := hB.2 c
        refine E_lload_n 2 dX12_findParts_180 rfl rfl ?_
        refine E_callS (as := [.long y2]) (st := []) cm_X12_filled cS_X12_443 rfl rfl (by decide) (Nat.le_of_ble_eq_true rfl) (Nat.le_of_ble_eq_true rfl) dX12_findParts_181 hB (fun r G1 hr => ?_)
        obtain ⟨r1, rfl, hE1, hB⟩ := hr
        have hL1 : Lay G1.2.2 := by rw [hE1]; exact hL
        have hE1 : G1.2.2 = G.2.2 := hE1
        show Ev K mX12_findParts 3 184 [(0, .ref 66), (1, .int x1), (2, .long y2), (5, .int x5), (6, .int xs0)] [.long r1] G1 _
        refine E_aload_n 0 dX12_findParts_184 rfl rfl rfl ?_
        refine E_gL (v := sL G1 66 52) fG_X12_429 rfl (lo_66 hL1) rfl dX12_findParts_185 ?_
        refine E_callS (as := [.long (sL G1 66 52)]) (st := [.long r1]) cm_X12_filled cS_X12_443 rfl rfl (by decide) (Nat.le_of_ble_eq_true rfl) (Nat.le_of_ble_eq_true rfl) dX12_findParts_188 hB (fun r G2 hr => ?_)
        obtain ⟨r2, rfl, hE2, hB⟩ := hr
        have hL2 : Lay G2.2.2 := by rw [hE2]; exact hL1
        have hE2 : G2.2.2 = G.2.2 := hE2.trans hE1
        show Ev K mX12_findParts 3 191 [(0, .ref 66), (1, .int x1), (2, .long y2), (5, .int x5), (6, .int xs0)] [.long r2, .long r1] G2 _
        refine E_lcmp dX12_findParts_191 ?_
        refine E_if_ge (tgt := 199) dX12_findParts_192 (by decide) (fun c => ?_) (fun c => ?_)
        · have hB := hB.1 ((fun q => absurd ((lgc_lt r1 r2).mpr q) (Int32.not_lt.mpr c)))
          exact EvV.tr hB hE2
        · have hB := hB.2 ((lgc_lt r1 r2).mp (Int32.not_le.mp c))
          refine E_iconst (v := 1) dX12_findParts_195 (by decide) ?_
          refine E_goto (tgt := 200) dX12_findParts_196 (by decide) ?_
          exact EvV.tr hB hE2

set_option maxRecDepth 20000 in
set_option maxHeartbeats 2000000 in
theorem kX12_findParts_199 {K : KT} {G : St} {Q : St → Prop} {x1 : Int32} {y2 : Int64} {x5 : Int32} {x6 : Int32} (hL : Lay G.2.2) 
    (hB : EvV K mX12_findParts 3 200 [(0, .ref 66), (1, .int x1), (2, .long y2), (5, .int x5), (6, .int x6)] [.int 0] G Q) :
    EvV K mX12_findParts 3 199 [(0, .ref 66), (1, .int x1), (2, .long y2), (5, .int x5), (6, .int x6)] [] G Q := by
  refine E_iconst (v := 0) dX12_findParts_199 (by decide) ?_
  exact EvV.tr hB rfl

set_option maxRecDepth 20000 in
set_option maxHeartbeats 2000000 in
theorem kX12_findParts_200 {K : KT} {G : St} {Q : St → Prop} {x1 : Int32} {y2 : Int64} {x5 : Int32} {x6 : Int32} {xs0 : Int32} (hL : Lay G.2.2) 
    (hB : ((x5 ≤ 0 → EvV K mX12_findParts 3 223 [(0, .ref 66), (1, .int x1)] [] G Q) ∧ (¬ x5 ≤ 0 → ((xs0 = 0 → EvV K mX12_findParts 3 223 [(0, .ref 66), (1, .int x1)] [] G Q) ∧ (¬ xs0 = 0 → EvV K mX12_findParts 3 223 [(0, .ref 66), (1, .int x1)] [] (uI (uL G 66 52 y2) 66 53 x6) Q))))) :
    EvV K mX12_findParts 3 200 [(0, .ref 66), (1, .int x1), (2, .long y2), (5, .int x5), (6, .int x6)] [.int xs0] G Q := by
  refine E_istore (lv' := [(0, .ref 66), (1, .int x1), (2, .long y2), (5, .int x5), (6, .int x6), (7, .int xs0)]) dX12_findParts_200 (by decide) rfl ?_
  refine E_iload 3 dX12_findParts_202 rfl ?_
  refine E_if_le (tgt := 223) dX12_findParts_204 (by decide) (fun c => ?_) (fun c => ?_)
  · have hB := hB.1 c
    refine E_sub (lv' := [(0, .ref 66), (1, .int x1)]) [0, 1] rfl ?_
    exact EvV.tr hB rfl
  · have hB := hB.2 c
    refine E_iload 5 dX12_findParts_207 rfl ?_
    refine E_if_eq (tgt := 223) dX12_findParts_209 (by decide) (fun c => ?_) (fun c => ?_)
    · have hB := hB.1 c
      refine E_sub (lv' := [(0, .ref 66), (1, .int x1)]) [0, 1] rfl ?_
      exact EvV.tr hB rfl
    · have hB := hB.2 c
      refine E_aload_n 0 dX12_findParts_212 rfl rfl rfl ?_
      refine E_lload_n 2 dX12_findParts_213 rfl rfl ?_
      refine E_pL fP_X12_429 rfl (lo_66 hL) dX12_findParts_214 ?_
      refine E_aload_n 0 dX12_findParts_217 rfl rfl rfl ?_
      refine E_iload 4 dX12_findParts_218 rfl ?_
      refine E_pI fP_X12_433 rfl (lo_66 hL) dX12_findParts_220 ?_
      refine E_sub (lv' := [(0, .ref 66), (1, .int x1)]) [0, 1] rfl ?_
      exact EvV.tr hB rfl

set_option maxRecDepth 20000 in
set_option maxHeartbeats 2000000 in
theorem kX12_findParts_223 {K : KT} {G : St} {Q : St → Prop} {x1 : Int32} (hL : Lay G.2.2) 
    (hB : EvV K mX12_findParts 3 14 [(0, .ref 66), (1, .int (x1 + 1))] [] G Q) :
    EvV K mX12_findParts 3 223 [(0, .ref 66), (1, .int x1)] [] G Q := by
  refine E_iinc (v := x1 + 1) (lv' := [(0, .ref 66), (1, .int (x1 + 1))]) 1 dX12_findParts_223 rfl rfl (by decide) rfl ?_
  refine E_goto (tgt := 14) dX12_findParts_226 (by decide) ?_
  exact EvV.tr hB rfl

set_option maxRecDepth 20000 in
set_option maxHeartbeats 2000000 in
theorem kX12_parts_0 {K : KT} {G : St} {Q : Int64 → St → Prop} {x1 : Int32} (hL : Lay G.2.2) 
    (hB : EvI K mX12_within 0 0 [(0, .int x1), (1, .int 0), (2, .int 1)] [] (uI G 66 0 0) (fun r1 G1 => ((¬ r1 = 0 → EvV K mX12_findAll 5 0 [(0, .ref 66)] [] G1 (fun G2 => EvV K mX12_findParts 3 0 [(0, .ref 66)] [] G2 (fun G3 => ((¬ (sL G3 66 52) < 0 → ((¬ x1 = 0 → Q (Int32.toInt64 (sI G3 66 53)) G3) ∧ (x1 = 0 → Q (sL G3 66 52) G3))) ∧ ((sL G3 66 52) < 0 → Q (-1) G3))))) ∧ (r1 = 0 → Q (-1) G1)))) :
    EvL K mX12_parts 6 0 [(0, .ref 66), (1, .int x1)] [] G Q := by
  refine E_aload_n 0 dX12_parts_0 rfl rfl rfl ?_
  refine E_iconst (v := 0) dX12_parts_1 (by decide) ?_
  refine E_pI fP_X12_1 rfl (lo_66 hL) dX12_parts_2 ?_
  refine E_iload_n 1 dX12_parts_5 rfl rfl ?_
  refine E_iconst (v := 0) dX12_parts_6 (by decide) ?_
  refine E_iconst (v := 1) dX12_parts_7 (by decide) ?_
  refine E_callS (as := [.int x1, .int 0, .int 1]) (st := []) cm_X12_within cS_X12_277 rfl rfl (by decide) (Nat.le_of_ble_eq_true rfl) (Nat.le_of_ble_eq_true rfl) dX12_parts_8 hB (fun r G1 hr => ?_)
  obtain ⟨r1, rfl, hE1, hB⟩ := hr
  have hL1 : Lay G1.2.2 := by rw [hE1]; exact hL
  have hE1 : G1.2.2 = G.2.2 := hE1
  show Ev K mX12_parts 6 11 [(0, .ref 66), (1, .int x1)] [.int r1] G1 _
  refine E_if_ne (tgt := 18) dX12_parts_11 (by decide) (fun c => ?_) (fun c => ?_)
  · have hB := hB.1 c
    refine E_aload_n 0 dX12_parts_18 rfl rfl rfl ?_
    refine E_cV (ci := 11) (as := []) (st := []) cm_X12_findAll cV_X12_271 ⟨_, _, rfl⟩ (by decide) (lo_66 hL1) rfl rfl (by decide) (Nat.le_of_ble_eq_true rfl) (Nat.le_of_ble_eq_true rfl) dX12_parts_19 hB (fun r G2 hr => ?_)
    obtain ⟨rfl, hE2, hB⟩ := hr
    have hL2 : Lay G2.2.2 := by rw [hE2]; exact hL1
    have hE2 : G2.2.2 = G.2.2 := hE2.trans hE1
    show Ev K mX12_parts 6 22 [(0, .ref 66), (1, .int x1)] [] G2 _
    refine E_aload_n 0 dX12_parts_22 rfl rfl rfl ?_
    refine E_cV (ci := 11) (as := []) (st := []) cm_X12_findParts cV_X12_447 ⟨_, _, rfl⟩ (by decide) (lo_66 hL2) rfl rfl (by decide) (Nat.le_of_ble_eq_true rfl) (Nat.le_of_ble_eq_true rfl) dX12_parts_23 hB (fun r G3 hr => ?_)
    obtain ⟨rfl, hE3, hB⟩ := hr
    have hL3 : Lay G3.2.2 := by rw [hE3]; exact hL2
    have hE3 : G3.2.2 = G.2.2 := hE3.trans hE2
    show Ev K mX12_parts 6 26 [(0, .ref 66), (1, .int x1)] [] G3 _
    refine E_aload_n 0 dX12_parts_26 rfl rfl rfl ?_
    refine E_gL (v := sL G3 66 52) fG_X12_429 rfl (lo_66 hL3) rfl dX12_parts_27 ?_
    refine E_lconst (v := 0) dX12_parts_30 (by decide) ?_
    refine E_lcmp dX12_parts_31 ?_
    refine E_if_ge (tgt := 41) dX12_parts_32 (by decide) (fun c => ?_) (fun c => ?_)
    · have hB := hB.1 ((fun q => absurd ((lgc_lt (sL G3 66 52) 0).mpr q) (Int32.not_lt.mpr c)))
      refine E_iload_n 1 dX12_parts_41 rfl rfl ?_
      refine E_if_ne (tgt := 52) dX12_parts_42 (by decide) (fun c => ?_) (fun c => ?_)
      · have hB := hB.1 c
        refine E_aload_n 0 dX12_parts_52 rfl rfl rfl ?_
        refine E_gI (v := sI G3 66 53) fG_X12_433 rfl (lo_66 hL3) rfl dX12_parts_53 ?_
        refine E_i2l dX12_parts_56 rfl ?_
        exact E_lret rfl dX12_parts_57 ⟨_, rfl, hE3, hB⟩
      · have hB := hB.2 c
        refine E_aload_n 0 dX12_parts_45 rfl rfl rfl ?_
        refine E_gL (v := sL G3 66 52) fG_X12_429 rfl (lo_66 hL3) rfl dX12_parts_46 ?_
        refine E_goto (tgt := 57) dX12_parts_49 (by decide) ?_
        exact E_lret rfl dX12_parts_57 ⟨_, rfl, hE3, hB⟩
    · have hB := hB.2 ((lgc_lt (sL G3 66 52) 0).mp (Int32.not_le.mp c))
      refine E_ldc2 (v := (-1)) tm_1559 dX12_parts_35 ?_
      refine E_goto (tgt := 57) dX12_parts_38 (by decide) ?_
      exact E_lret rfl dX12_parts_57 ⟨_, rfl, hE3, hB⟩
  · have hB := hB.2 c
    refine E_ldc2 (v := (-1)) tm_1559 dX12_parts_14 ?_
    exact E_lret rfl dX12_parts_17 ⟨_, rfl, hE1, hB⟩

set_option maxRecDepth 20000 in
set_option maxHeartbeats 2000000 in
theorem kX12_isNearCell_0 {K : KT} {G : St} {Q : Int32 → St → Prop} {x1 : Int32} {x2 : Int32} (hL : Lay G.2.2) 
    (hB : EvI K mX12_isSeen 1 0 [(0, .ref 66), (1, .int (x1 / 4))] [] G (fun r1 G1 => ((r1 = 0 → Q 0 G1) ∧ (¬ r1 = 0 → EvI K mX12_isText 1 0 [(0, .ref 66), (1, .int (x1 / 4)), (2, .int (x1 - x1 / 4 * 4))] [] G1 (fun r2 G2 => ((r2 = 0 → Q 0 G2) ∧ (¬ r2 = 0 → vp_in x1 124 ∧ vp_in x2 8 ∧ EvI K mX12_isNear 2 0 [(0, .long (sL G2 78 (Int32.toNatClampNeg x1))), (2, .long (sL G2 80 (Int32.toNatClampNeg x2)))] [] G2 (fun r5 G5 => ((r5 = 0 → Q 0 G5) ∧ (¬ r5 = 0 → Q 1 G5)))))))))) :
    EvI K mX12_isNearCell 3 0 [(0, .ref 66), (1, .int x1), (2, .int x2)] [] G Q := by
  refine E_aload_n 0 dX12_isNearCell_0 rfl rfl rfl ?_
  refine E_iload_n 1 dX12_isNearCell_1 rfl rfl ?_
  refine E_iconst (v := 4) dX12_isNearCell_2 (by decide) ?_
  refine E_idiv dX12_isNearCell_3 (by decide) ?_
  refine E_cV (ci := 11) (as := [.int (x1 / 4)]) (st := []) cm_X12_isSeen cV_X12_287 ⟨_, _, rfl⟩ (by decide) (lo_66 hL) rfl rfl (by decide) (Nat.le_of_ble_eq_true rfl) (Nat.le_of_ble_eq_true rfl) dX12_isNearCell_4 hB (fun r G1 hr => ?_)
  obtain ⟨r1, rfl, hE1, hB⟩ := hr
  have hL1 : Lay G1.2.2 := by rw [hE1]; exact hL
  have hE1 : G1.2.2 = G.2.2 := hE1
  show Ev K mX12_isNearCell 3 7 [(0, .ref 66), (1, .int x1), (2, .int x2)] [.int r1] G1 _
  refine E_if_eq (tgt := 45) dX12_isNearCell_7 (by decide) (fun c => ?_) (fun c => ?_)
  · have hB := hB.1 c
    refine E_iconst (v := 0) dX12_isNearCell_45 (by decide) ?_
    exact E_zret rfl (Or.inl rfl) dX12_isNearCell_46 ⟨_, rfl, hE1, hB⟩
  · have hB := hB.2 c
    refine E_aload_n 0 dX12_isNearCell_10 rfl rfl rfl ?_
    refine E_iload_n 1 dX12_isNearCell_11 rfl rfl ?_
    refine E_iconst (v := 4) dX12_isNearCell_12 (by decide) ?_
    refine E_idiv dX12_isNearCell_13 (by decide) ?_
    refine E_iload_n 1 dX12_isNearCell_14 rfl rfl ?_
    refine E_iconst (v := 4) dX12_isNearCell_15 (by decide) ?_
    refine E_irem dX12_isNearCell_16 (by decide) ?_
    refine E_cV (ci := 11) (as := [.int (x1 / 4), .int (x1 - x1 / 4 * 4)]) (st := []) cm_X12_isText cV_X12_426 ⟨_, _, rfl⟩ (by decide) (lo_66 hL1) rfl rfl (by decide) (Nat.le_of_ble_eq_true rfl) (Nat.le_of_ble_eq_true rfl) dX12_isNearCell_17 hB (fun r G2 hr => ?_)
    obtain ⟨r2, rfl, hE2, hB⟩ := hr
    have hL2 : Lay G2.2.2 := by rw [hE2]; exact hL1
    have hE2 : G2.2.2 = G.2.2 := hE2.trans hE1
    show Ev K mX12_isNearCell 3 20 [(0, .ref 66), (1, .int x1), (2, .int x2)] [.int r2] G2 _
    refine E_if_eq (tgt := 45) dX12_isNearCell_20 (by decide) (fun c => ?_) (fun c => ?_)
    · have hB := hB.1 c
      refine E_iconst (v := 0) dX12_isNearCell_45 (by decide) ?_
      exact E_zret rfl (Or.inl rfl) dX12_isNearCell_46 ⟨_, rfl, hE2, hB⟩
    · have hB := hB.2 c
      refine E_aload_n 0 dX12_isNearCell_23 rfl rfl rfl ?_
      refine E_gR (j := 78) fG_X12_71 rfl (lo_66 hL2) (lr_66_19 hL2) (by decide) dX12_isNearCell_24 ?_
      refine E_iload_n 1 dX12_isNearCell_27 rfl rfl ?_
      obtain ⟨qq3, hB⟩ := hB
      refine E_aL (p := Int32.toNatClampNeg x1) (v := sL G2 78 (Int32.toNatClampNeg x1)) (la_78 hL2) qq3 rfl rfl dX12_isNearCell_28 ?_
      refine E_aload_n 0 dX12_isNearCell_29 rfl rfl rfl ?_
      refine E_gR (j := 80) fG_X12_77 rfl (lo_66 hL2) (lr_66_23 hL2) (by decide) dX12_isNearCell_30 ?_
      refine E_iload_n 2 dX12_isNearCell_33 rfl rfl ?_
      obtain ⟨qq4, hB⟩ := hB
      refine E_aL (p := Int32.toNatClampNeg x2) (v := sL G2 80 (Int32.toNatClampNeg x2)) (la_80 hL2) qq4 rfl rfl dX12_isNearCell_34 ?_
      refine E_callS (as := [.long (sL G2 78 (Int32.toNatClampNeg x1)), .long (sL G2 80 (Int32.toNatClampNeg x2))]) (st := []) cm_X12_isNear cS_X12_310 rfl rfl (by decide) (Nat.le_of_ble_eq_true rfl) (Nat.le_of_ble_eq_true rfl) dX12_isNearCell_35 hB (fun r G5 hr => ?_)
      obtain ⟨r5, rfl, hE5, hB⟩ := hr
      have hL5 : Lay G5.2.2 := by rw [hE5]; exact hL2
      have hE5 : G5.2.2 = G.2.2 := hE5.trans hE2
      show Ev K mX12_isNearCell 3 38 [(0, .ref 66), (1, .int x1), (2, .int x2)] [.int r5] G5 _
      refine E_if_eq (tgt := 45) dX12_isNearCell_38 (by decide) (fun c => ?_) (fun c => ?_)
      · have hB := hB.1 c
        refine E_iconst (v := 0) dX12_isNearCell_45 (by decide) ?_
        exact E_zret rfl (Or.inl rfl) dX12_isNearCell_46 ⟨_, rfl, hE5, hB⟩
      · have hB := hB.2 c
        refine E_iconst (v := 1) dX12_isNearCell_41 (by decide) ?_
        refine E_goto (tgt := 46) dX12_isNearCell_42 (by decide) ?_
        exact E_zret rfl (Or.inr rfl) dX12_isNearCell_46 ⟨_, rfl, hE5, hB⟩

set_option maxRecDepth 20000 in
set_option maxHeartbeats 2000000 in
theorem kX12_isFirstCell_0 {K : KT} {G : St} {Q : Int32 → St → Prop} {x1 : Int32} (hL : Lay G.2.2) 
    (hB : EvI K mX12_isFirstCell 2 4 [(0, .ref 66), (1, .int x1), (2, .int 1), (3, .int 0)] [] G Q) :
    EvI K mX12_isFirstCell 2 0 [(0, .ref 66), (1, .int x1)] [] G Q := by
  refine E_iconst (v := 1) dX12_isFirstCell_0 (by decide) ?_
  refine E_istore_n (lv' := [(0, .ref 66), (1, .int x1), (2, .int 1)]) dX12_isFirstCell_1 rfl (by decide) rfl ?_
  refine E_iconst (v := 0) dX12_isFirstCell_2 (by decide) ?_
  refine E_istore_n (lv' := [(0, .ref 66), (1, .int x1), (2, .int 1), (3, .int 0)]) dX12_isFirstCell_3 rfl (by decide) rfl ?_
  exact EvI.tr hB rfl

set_option maxRecDepth 20000 in
set_option maxHeartbeats 2000000 in
theorem kX12_isFirstCell_4 {K : KT} {G : St} {Q : Int32 → St → Prop} {x1 : Int32} {x2 : Int32} {x3 : Int32} (hL : Lay G.2.2) 
    (hB : ((x1 ≤ x3 → (x2 = 0 ∨ x2 = 1) ∧ Q x2 G) ∧ (¬ x1 ≤ x3 → ((x2 = 0 → EvI K mX12_isFirstCell 2 56 [(0, .ref 66), (1, .int x1), (3, .int x3)] [] G Q) ∧ (¬ x2 = 0 → EvI K mX12_isSeen 1 0 [(0, .ref 66), (1, .int (x3 / 4))] [] G (fun r2 G2 => ((r2 = 0 → EvI K mX12_isFirstCell 2 57 [(0, .ref 66), (1, .int x1), (3, .int x3)] [.int 1] G2 Q) ∧ (¬ r2 = 0 → EvI K mX12_isText 1 0 [(0, .ref 66), (1, .int (x3 / 4)), (2, .int (x3 - x3 / 4 * 4))] [] G2 (fun r3 G3 => ((r3 = 0 → EvI K mX12_isFirstCell 2 57 [(0, .ref 66), (1, .int x1), (3, .int x3)] [.int 1] G3 Q) ∧ (¬ r3 = 0 → vp_in x3 124 ∧ vp_in x1 124 ∧ (((sL G3 78 (Int32.toNatClampNeg x3)) = (sL G3 78 (Int32.toNatClampNeg x1)) → EvI K mX12_isFirstCell 2 56 [(0, .ref 66), (1, .int x1), (3, .int x3)] [] G3 Q) ∧ (¬ (sL G3 78 (Int32.toNatClampNeg x3)) = (sL G3 78 (Int32.toNatClampNeg x1)) → EvI K mX12_isFirstCell 2 57 [(0, .ref 66), (1, .int x1), (3, .int x3)] [.int 1] G3 Q))))))))))))) :
    EvI K mX12_isFirstCell 2 4 [(0, .ref 66), (1, .int x1), (2, .int x2), (3, .int x3)] [] G Q := by
  refine E_iload_n 3 dX12_isFirstCell_4 rfl rfl ?_
  refine E_iload_n 1 dX12_isFirstCell_5 rfl rfl ?_
  refine E_icmp_ge (tgt := 64) dX12_isFirstCell_6 (by decide) (fun c => ?_) (fun c => ?_)
  · have hB := hB.1 c
    refine E_iload_n 2 dX12_isFirstCell_64 rfl rfl ?_
    obtain ⟨qq1, hB⟩ := hB
    exact E_zret rfl qq1 dX12_isFirstCell_65 ⟨_, rfl, rfl, hB⟩
  · have hB := hB.2 c
    refine E_iload_n 2 dX12_isFirstCell_9 rfl rfl ?_
    refine E_if_eq (tgt := 56) dX12_isFirstCell_10 (by decide) (fun c => ?_) (fun c => ?_)
    · have hB := hB.1 c
      refine E_sub (lv' := [(0, .ref 66), (1, .int x1), (3, .int x3)]) [0, 1, 3] rfl ?_
      exact EvI.tr hB rfl
    · have hB := hB.2 c
      refine E_aload_n 0 dX12_isFirstCell_13 rfl rfl rfl ?_
      refine E_iload_n 3 dX12_isFirstCell_14 rfl rfl ?_
      refine E_iconst (v := 4) dX12_isFirstCell_15 (by decide) ?_
      refine E_idiv dX12_isFirstCell_16 (by decide) ?_
      refine E_cV (ci := 11) (as := [.int (x3 / 4)]) (st := []) cm_X12_isSeen cV_X12_287 ⟨_, _, rfl⟩ (by decide) (lo_66 hL) rfl rfl (by decide) (Nat.le_of_ble_eq_true rfl) (Nat.le_of_ble_eq_true rfl) dX12_isFirstCell_17 hB (fun r G2 hr => ?_)
      obtain ⟨r2, rfl, hE2, hB⟩ := hr
      have hL2 : Lay G2.2.2 := by rw [hE2]; exact hL
      have hE2 : G2.2.2 = G.2.2 := hE2
      show Ev K mX12_isFirstCell 2 20 [(0, .ref 66), (1, .int x1), (2, .int x2), (3, .int x3)] [.int r2] G2 _
      refine E_if_eq (tgt := 52) dX12_isFirstCell_20 (by decide) (fun c => ?_) (fun c => ?_)
      · have hB := hB.1 c
        refine E_iconst (v := 1) dX12_isFirstCell_52 (by decide) ?_
        refine E_goto (tgt := 57) dX12_isFirstCell_53 (by decide) ?_
        refine E_sub (lv' := [(0, .ref 66), (1, .int x1), (3, .int x3)]) [0, 1, 3] rfl ?_
        exact EvI.tr hB hE2
      · have hB := hB.2 c
        refine E_aload_n 0 dX12_isFirstCell_23 rfl rfl rfl ?_
        refine E_iload_n 3 dX12_isFirstCell_24 rfl rfl ?_
        refine E_iconst (v := 4) dX12_isFirstCell_25 (by decide) ?_
        refine E_idiv dX12_isFirstCell_26 (by decide) ?_
        refine E_iload_n 3 dX12_isFirstCell_27 rfl rfl ?_
        refine E_iconst (v := 4) dX12_isFirstCell_28 (by decide) ?_
        refine E_irem dX12_isFirstCell_29 (by decide) ?_
        refine E_cV (ci := 11) (as := [.int (x3 / 4), .int (x3 - x3 / 4 * 4)]) (st := []) cm_X12_isText cV_X12_426 ⟨_, _, rfl⟩ (by decide) (lo_66 hL2) rfl rfl (by decide) (Nat.le_of_ble_eq_true rfl) (Nat.le_of_ble_eq_true rfl) dX12_isFirstCell_30 hB (fun r G3 hr => ?_)
        obtain ⟨r3, rfl, hE3, hB⟩ := hr
        have hL3 : Lay G3.2.2 := by rw [hE3]; exact hL2
        have hE3 : G3.2.2 = G.2.2 := hE3.trans hE2
        show Ev K mX12_isFirstCell 2 33 [(0, .ref 66), (1, .int x1), (2, .int x2), (3, .int x3)] [.int r3] G3 _
        refine E_if_eq (tgt := 52) dX12_isFirstCell_33 (by decide) (fun c => ?_) (fun c => ?_)
        · have hB := hB.1 c
          refine E_iconst (v := 1) dX12_isFirstCell_52 (by decide) ?_
          refine E_goto (tgt := 57) dX12_isFirstCell_53 (by decide) ?_
          refine E_sub (lv' := [(0, .ref 66), (1, .int x1), (3, .int x3)]) [0, 1, 3] rfl ?_
          exact EvI.tr hB hE3
        · have hB := hB.2 c
          refine E_aload_n 0 dX12_isFirstCell_36 rfl rfl rfl ?_
          refine E_gR (j := 78) fG_X12_71 rfl (lo_66 hL3) (lr_66_19 hL3) (by decide) dX12_isFirstCell_37 ?_
          refine E_iload_n 3 dX12_isFirstCell_40 rfl rfl ?_
          obtain ⟨qq4, hB⟩ := hB
          refine E_aL (p := Int32.toNatClampNeg x3) (v := sL G3 78 (Int32.toNatClampNeg x3)) (la_78 hL3) qq4 rfl rfl dX12_isFirstCell_41 ?_
          refine E_aload_n 0 dX12_isFirstCell_42 rfl rfl rfl ?_
          refine E_gR (j := 78) fG_X12_71 rfl (lo_66 hL3) (lr_66_19 hL3) (by decide) dX12_isFirstCell_43 ?_
          refine E_iload_n 1 dX12_isFirstCell_46 rfl rfl ?_
          obtain ⟨qq5, hB⟩ := hB
          refine E_aL (p := Int32.toNatClampNeg x1) (v := sL G3 78 (Int32.toNatClampNeg x1)) (la_78 hL3) qq5 rfl rfl dX12_isFirstCell_47 ?_
          refine E_lcmp dX12_isFirstCell_48 ?_
          refine E_if_eq (tgt := 56) dX12_isFirstCell_49 (by decide) (fun c => ?_) (fun c => ?_)
          · have hB := hB.1 ((lgc_eq (sL G3 78 (Int32.toNatClampNeg x3)) (sL G3 78 (Int32.toNatClampNeg x1))).mp c)
            refine E_sub (lv' := [(0, .ref 66), (1, .int x1), (3, .int x3)]) [0, 1, 3] rfl ?_
            exact EvI.tr hB hE3
          · have hB := hB.2 (fun q => c ((lgc_eq (sL G3 78 (Int32.toNatClampNeg x3)) (sL G3 78 (Int32.toNatClampNeg x1))).mpr q))
            refine E_iconst (v := 1) dX12_isFirstCell_52 (by decide) ?_
            refine E_goto (tgt := 57) dX12_isFirstCell_53 (by decide) ?_
            refine E_sub (lv' := [(0, .ref 66), (1, .int x1), (3, .int x3)]) [0, 1, 3] rfl ?_
            exact EvI.tr hB hE3

set_option maxRecDepth 20000 in
set_option maxHeartbeats 2000000 in
theorem kX12_isFirstCell_56 {K : KT} {G : St} {Q : Int32 → St → Prop} {x1 : Int32} {x3 : Int32} (hL : Lay G.2.2) 
    (hB : EvI K mX12_isFirstCell 2 57 [(0, .ref 66), (1, .int x1), (3, .int x3)] [.int 0] G Q) :
    EvI K mX12_isFirstCell 2 56 [(0, .ref 66), (1, .int x1), (3, .int x3)] [] G Q := by
  refine E_iconst (v := 0) dX12_isFirstCell_56 (by decide) ?_
  exact EvI.tr hB rfl

set_option maxRecDepth 20000 in
set_option maxHeartbeats 2000000 in
theorem kX12_isFirstCell_57 {K : KT} {G : St} {Q : Int32 → St → Prop} {x1 : Int32} {x3 : Int32} {xs0 : Int32} (hL : Lay G.2.2) 
    (hB : EvI K mX12_isFirstCell 2 4 [(0, .ref 66), (1, .int x1), (2, .int xs0), (3, .int (x3 + 1))] [] G Q) :
    EvI K mX12_isFirstCell 2 57 [(0, .ref 66), (1, .int x1), (3, .int x3)] [.int xs0] G Q := by
  refine E_istore_n (lv' := [(0, .ref 66), (1, .int x1), (2, .int xs0), (3, .int x3)]) dX12_isFirstCell_57 rfl (by decide) rfl ?_
  refine E_iinc (v := x3 + 1) (lv' := [(0, .ref 66), (1, .int x1), (2, .int xs0), (3, .int (x3 + 1))]) 3 dX12_isFirstCell_58 rfl rfl (by decide) rfl ?_
  refine E_goto (tgt := 4) dX12_isFirstCell_61 (by decide) ?_
  exact EvI.tr hB rfl

set_option maxRecDepth 20000 in
set_option maxHeartbeats 2000000 in
theorem kX12_near_0 {K : KT} {G : St} {Q : Int64 → St → Prop} {x1 : Int32} {x2 : Int32} (hL : Lay G.2.2) 
    (hB : EvI K mX12_within 0 0 [(0, .int x1), (1, .int 0), (2, .int ((sI G 66 20) - 1))] [] (uI G 66 0 0) (fun r1 G1 => ((r1 = 0 → Q (-1) G1) ∧ (¬ r1 = 0 → vp_in x1 8 ∧ ((¬ (sI G1 79 (Int32.toNatClampNeg x1)) = 0 → Q (-1) G1) ∧ ((sI G1 79 (Int32.toNatClampNeg x1)) = 0 → ((0 ≤ x2 → EvL K mX12_near 4 38 [(0, .ref 66), (1, .int x1), (2, .int x2), (3, .int 0)] [] G1 Q) ∧ (¬ 0 ≤ x2 → Q (-1) G1)))))))) :
    EvL K mX12_near 4 0 [(0, .ref 66), (1, .int x1), (2, .int x2)] [] G Q := by
  refine E_aload_n 0 dX12_near_0 rfl rfl rfl ?_
  refine E_iconst (v := 0) dX12_near_1 (by decide) ?_
  refine E_pI fP_X12_1 rfl (lo_66 hL) dX12_near_2 ?_
  refine E_iload_n 1 dX12_near_5 rfl rfl ?_
  refine E_iconst (v := 0) dX12_near_6 (by decide) ?_
  refine E_aload_n 0 dX12_near_7 rfl rfl rfl ?_
  refine E_gI (v := sI G 66 20) fG_X12_226 rfl (lo_66 hL) rfl dX12_near_8 ?_
  refine E_iconst (v := 1) dX12_near_11 (by decide) ?_
  refine E_isub dX12_near_12 ?_
  refine E_callS (as := [.int x1, .int 0, .int ((sI G 66 20) - 1)]) (st := []) cm_X12_within cS_X12_277 rfl rfl (by decide) (Nat.le_of_ble_eq_true rfl) (Nat.le_of_ble_eq_true rfl) dX12_near_13 hB (fun r G1 hr => ?_)
  obtain ⟨r1, rfl, hE1, hB⟩ := hr
  have hL1 : Lay G1.2.2 := by rw [hE1]; exact hL
  have hE1 : G1.2.2 = G.2.2 := hE1
  show Ev K mX12_near 4 16 [(0, .ref 66), (1, .int x1), (2, .int x2)] [.int r1] G1 _
  refine E_if_eq (tgt := 32) dX12_near_16 (by decide) (fun c => ?_) (fun c => ?_)
  · have hB := hB.1 c
    refine E_ldc2 (v := (-1)) tm_1559 dX12_near_32 ?_
    exact E_lret rfl dX12_near_35 ⟨_, rfl, hE1, hB⟩
  · have hB := hB.2 c
    refine E_aload_n 0 dX12_near_19 rfl rfl rfl ?_
    refine E_gR (j := 79) fG_X12_74 rfl (lo_66 hL1) (lr_66_22 hL1) (by decide) dX12_near_20 ?_
    refine E_iload_n 1 dX12_near_23 rfl rfl ?_
    obtain ⟨qq2, hB⟩ := hB
    refine E_aI (p := Int32.toNatClampNeg x1) (v := sI G1 79 (Int32.toNatClampNeg x1)) (la_79 hL1) qq2 rfl rfl dX12_near_24 ?_
    refine E_if_ne (tgt := 32) dX12_near_25 (by decide) (fun c => ?_) (fun c => ?_)
    · have hB := hB.1 c
      refine E_ldc2 (v := (-1)) tm_1559 dX12_near_32 ?_
      exact E_lret rfl dX12_near_35 ⟨_, rfl, hE1, hB⟩
    · have hB := hB.2 c
      refine E_iload_n 2 dX12_near_28 rfl rfl ?_
      refine E_if_ge (tgt := 36) dX12_near_29 (by decide) (fun c => ?_) (fun c => ?_)
      · have hB := hB.1 c
        refine E_iconst (v := 0) dX12_near_36 (by decide) ?_
        refine E_istore_n (lv' := [(0, .ref 66), (1, .int x1), (2, .int x2), (3, .int 0)]) dX12_near_37 rfl (by decide) rfl ?_
        exact EvL.tr hB hE1
      · have hB := hB.2 c
        refine E_ldc2 (v := (-1)) tm_1559 dX12_near_32 ?_
        exact E_lret rfl dX12_near_35 ⟨_, rfl, hE1, hB⟩

set_option maxRecDepth 20000 in
set_option maxHeartbeats 2000000 in
theorem kX12_near_38 {K : KT} {G : St} {Q : Int64 → St → Prop} {x1 : Int32} {x2 : Int32} {x3 : Int32} (hL : Lay G.2.2) 
    (hB : (((4 * (sI G 66 16)) ≤ x3 → Q (-1) G) ∧ (¬ (4 * (sI G 66 16)) ≤ x3 → EvI K mX12_isNearCell 3 0 [(0, .ref 66), (1, .int x3), (2, .int x1)] [] G (fun r1 G1 => ((r1 = 0 → EvL K mX12_near 4 157 [(0, .ref 66), (1, .int x1), (2, .int x2), (3, .int x3)] [] G1 Q) ∧ (¬ r1 = 0 → EvL K mX12_near 4 63 [(0, .ref 66), (1, .int x1), (2, .int x2), (3, .int x3), (4, .int 0), (5, .int 0)] [] G1 Q)))))) :
    EvL K mX12_near 4 38 [(0, .ref 66), (1, .int x1), (2, .int x2), (3, .int x3)] [] G Q := by
  refine E_iload_n 3 dX12_near_38 rfl rfl ?_
  refine E_iconst (v := 4) dX12_near_39 (by decide) ?_
  refine E_aload_n 0 dX12_near_40 rfl rfl rfl ?_
  refine E_gI (v := sI G 66 16) fG_X12_223 rfl (lo_66 hL) rfl dX12_near_41 ?_
  refine E_imul dX12_near_44 ?_
  refine E_icmp_ge (tgt := 163) dX12_near_45 (by decide) (fun c => ?_) (fun c => ?_)
  · have hB := hB.1 c
    refine E_ldc2 (v := (-1)) tm_1559 dX12_near_163 ?_
    exact E_lret rfl dX12_near_166 ⟨_, rfl, rfl, hB⟩
  · have hB := hB.2 c
    refine E_aload_n 0 dX12_near_48 rfl rfl rfl ?_
    refine E_iload_n 3 dX12_near_49 rfl rfl ?_
    refine E_iload_n 1 dX12_near_50 rfl rfl ?_
    refine E_cV (ci := 11) (as := [.int x3, .int x1]) (st := []) cm_X12_isNearCell cV_X12_450 ⟨_, _, rfl⟩ (by decide) (lo_66 hL) rfl rfl (by decide) (Nat.le_of_ble_eq_true rfl) (Nat.le_of_ble_eq_true rfl) dX12_near_51 hB (fun r G1 hr => ?_)
    obtain ⟨r1, rfl, hE1, hB⟩ := hr
    have hL1 : Lay G1.2.2 := by rw [hE1]; exact hL
    have hE1 : G1.2.2 = G.2.2 := hE1
    show Ev K mX12_near 4 54 [(0, .ref 66), (1, .int x1), (2, .int x2), (3, .int x3)] [.int r1] G1 _
    refine E_if_eq (tgt := 157) dX12_near_54 (by decide) (fun c => ?_) (fun c => ?_)
    · have hB := hB.1 c
      exact EvL.tr hB hE1
    · have hB := hB.2 c
      refine E_iconst (v := 0) dX12_near_57 (by decide) ?_
      refine E_istore (lv' := [(0, .ref 66), (1, .int x1), (2, .int x2), (3, .int x3), (4, .int 0)]) dX12_near_58 (by decide) rfl ?_
      refine E_iconst (v := 0) dX12_near_60 (by decide) ?_
      refine E_istore (lv' := [(0, .ref 66), (1, .int x1), (2, .int x2), (3, .int x3), (4, .int 0), (5, .int 0)]) dX12_near_61 (by decide) rfl ?_
      exact EvL.tr hB hE1

set_option maxRecDepth 20000 in
set_option maxHeartbeats 2000000 in
theorem kX12_near_63 {K : KT} {G : St} {Q : Int64 → St → Prop} {x1 : Int32} {x2 : Int32} {x3 : Int32} {x4 : Int32} {x5 : Int32} (hL : Lay G.2.2) 
    (hB : (((4 * (sI G 66 16)) ≤ x5 → ((¬ x4 = x2 → EvL K mX12_near 4 157 [(0, .ref 66), (1, .int x1), (2, .int x2), (3, .int x3)] [] G Q) ∧ (x4 = x2 → vp_in x3 124 ∧ Q (sL G 78 (Int32.toNatClampNeg x3)) G))) ∧ (¬ (4 * (sI G 66 16)) ≤ x5 → EvI K mX12_isNearCell 3 0 [(0, .ref 66), (1, .int x5), (2, .int x1)] [] G (fun r2 G2 => ((r2 = 0 → EvL K mX12_near 4 111 [(0, .ref 66), (1, .int x1), (2, .int x2), (3, .int x3), (4, .int x4), (5, .int x5)] [] G2 Q) ∧ (¬ r2 = 0 → vp_in x5 124 ∧ EvL K mX12_filled 1 0 [(0, .long (sL G2 78 (Int32.toNatClampNeg x5)))] [] G2 (fun r4 G4 => vp_in x3 124 ∧ EvL K mX12_filled 1 0 [(0, .long (sL G4 78 (Int32.toNatClampNeg x3)))] [] G4 (fun r6 G6 => ((¬ r4 < r6 → EvL K mX12_near 4 111 [(0, .ref 66), (1, .int x1), (2, .int x2), (3, .int x3), (4, .int x4), (5, .int x5)] [] G6 Q) ∧ (r4 < r6 → EvL K mX12_near 4 112 [(0, .ref 66), (1, .int x1), (2, .int x2), (3, .int x3), (4, .int x4), (5, .int x5)] [.int 1] G6 Q)))))))))) :
    EvL K mX12_near 4 63 [(0, .ref 66), (1, .int x1), (2, .int x2), (3, .int x3), (4, .int x4), (5, .int x5)] [] G Q := by
  refine E_iload 5 dX12_near_63 rfl ?_
  refine E_iconst (v := 4) dX12_near_65 (by decide) ?_
  refine E_aload_n 0 dX12_near_66 rfl rfl rfl ?_
  refine E_gI (v := sI G 66 16) fG_X12_223 rfl (lo_66 hL) rfl dX12_near_67 ?_
  refine E_imul dX12_near_70 ?_
  refine E_icmp_ge (tgt := 144) dX12_near_71 (by decide) (fun c => ?_) (fun c => ?_)
  · have hB := hB.1 c
    refine E_iload 4 dX12_near_144 rfl ?_
    refine E_iload_n 2 dX12_near_146 rfl rfl ?_
    refine E_icmp_ne (tgt := 157) dX12_near_147 (by decide) (fun c => ?_) (fun c => ?_)
    · have hB := hB.1 c
      refine E_sub (lv' := [(0, .ref 66), (1, .int x1), (2, .int x2), (3, .int x3)]) [0, 1, 2, 3] rfl ?_
      exact EvL.tr hB rfl
    · have hB := hB.2 c
      refine E_aload_n 0 dX12_near_150 rfl rfl rfl ?_
      refine E_gR (j := 78) fG_X12_71 rfl (lo_66 hL) (lr_66_19 hL) (by decide) dX12_near_151 ?_
      refine E_iload_n 3 dX12_near_154 rfl rfl ?_
      obtain ⟨qq1, hB⟩ := hB
      refine E_aL (p := Int32.toNatClampNeg x3) (v := sL G 78 (Int32.toNatClampNeg x3)) (la_78 hL) qq1 rfl rfl dX12_near_155 ?_
      exact E_lret rfl dX12_near_156 ⟨_, rfl, rfl, hB⟩
  · have hB := hB.2 c
    refine E_aload_n 0 dX12_near_74 rfl rfl rfl ?_
    refine E_iload 5 dX12_near_75 rfl ?_
    refine E_iload_n 1 dX12_near_77 rfl rfl ?_
    refine E_cV (ci := 11) (as := [.int x5, .int x1]) (st := []) cm_X12_isNearCell cV_X12_450 ⟨_, _, rfl⟩ (by decide) (lo_66 hL) rfl rfl (by decide) (Nat.le_of_ble_eq_true rfl) (Nat.le_of_ble_eq_true rfl) dX12_near_78 hB (fun r G2 hr => ?_)
    obtain ⟨r2, rfl, hE2, hB⟩ := hr
    have hL2 : Lay G2.2.2 := by rw [hE2]; exact hL
    have hE2 : G2.2.2 = G.2.2 := hE2
    show Ev K mX12_near 4 81 [(0, .ref 66), (1, .int x1), (2, .int x2), (3, .int x3), (4, .int x4), (5, .int x5)] [.int r2] G2 _
    refine E_if_eq (tgt := 111) dX12_near_81 (by decide) (fun c => ?_) (fun c => ?_)
    · have hB := hB.1 c
      exact EvL.tr hB hE2
    · have hB := hB.2 c
      refine E_aload_n 0 dX12_near_84 rfl rfl rfl ?_
      refine E_gR (j := 78) fG_X12_71 rfl (lo_66 hL2) (lr_66_19 hL2) (by decide) dX12_near_85 ?_
      refine E_iload 5 dX12_near_88 rfl ?_
      obtain ⟨qq3, hB⟩ := hB
      refine E_aL (p := Int32.toNatClampNeg x5) (v := sL G2 78 (Int32.toNatClampNeg x5)) (la_78 hL2) qq3 rfl rfl dX12_near_90 ?_
      refine E_callS (as := [.long (sL G2 78 (Int32.toNatClampNeg x5))]) (st := []) cm_X12_filled cS_X12_443 rfl rfl (by decide) (Nat.le_of_ble_eq_true rfl) (Nat.le_of_ble_eq_true rfl) dX12_near_91 hB (fun r G4 hr => ?_)
      obtain ⟨r4, rfl, hE4, hB⟩ := hr
      have hL4 : Lay G4.2.2 := by rw [hE4]; exact hL2
      have hE4 : G4.2.2 = G.2.2 := hE4.trans hE2
      show Ev K mX12_near 4 94 [(0, .ref 66), (1, .int x1), (2, .int x2), (3, .int x3), (4, .int x4), (5, .int x5)] [.long r4] G4 _
      refine E_aload_n 0 dX12_near_94 rfl rfl rfl ?_
      refine E_gR (j := 78) fG_X12_71 rfl (lo_66 hL4) (lr_66_19 hL4) (by decide) dX12_near_95 ?_
      refine E_iload_n 3 dX12_near_98 rfl rfl ?_
      obtain ⟨qq5, hB⟩ := hB
      refine E_aL (p := Int32.toNatClampNeg x3) (v := sL G4 78 (Int32.toNatClampNeg x3)) (la_78 hL4) qq5 rfl rfl dX12_near_99 ?_
      refine E_callS (as := [.long (sL G4 78 (Int32.toNatClampNeg x3))]) (st := [.long r4]) cm_X12_filled cS_X12_443 rfl rfl (by decide) (Nat.le_of_ble_eq_true rfl) (Nat.le_of_ble_eq_true rfl) dX12_near_100 hB (fun r G6 hr => ?_)
      obtain ⟨r6, rfl, hE6, hB⟩ := hr
      have hL6 : Lay G6.2.2 := by rw [hE6]; exact hL4
      have hE6 : G6.2.2 = G.2.2 := hE6.trans hE4
      show Ev K mX12_near 4 103 [(0, .ref 66), (1, .int x1), (2, .int x2), (3, .int x3), (4, .int x4), (5, .int x5)] [.long r6, .long r4] G6 _
      refine E_lcmp dX12_near_103 ?_
      refine E_if_ge (tgt := 111) dX12_near_104 (by decide) (fun c => ?_) (fun c => ?_)
      · have hB := hB.1 ((fun q => absurd ((lgc_lt r4 r6).mpr q) (Int32.not_lt.mpr c)))
        exact EvL.tr hB hE6
      · have hB := hB.2 ((lgc_lt r4 r6).mp (Int32.not_le.mp c))
        refine E_iconst (v := 1) dX12_near_107 (by decide) ?_
        refine E_goto (tgt := 112) dX12_near_108 (by decide) ?_
        exact EvL.tr hB hE6

set_option maxRecDepth 20000 in
set_option maxHeartbeats 2000000 in
theorem kX12_near_111 {K : KT} {G : St} {Q : Int64 → St → Prop} {x1 : Int32} {x2 : Int32} {x3 : Int32} {x4 : Int32} {x5 : Int32} (hL : Lay G.2.2) 
    (hB : EvL K mX12_near 4 112 [(0, .ref 66), (1, .int x1), (2, .int x2), (3, .int x3), (4, .int x4), (5, .int x5)] [.int 0] G Q) :
    EvL K mX12_near 4 111 [(0, .ref 66), (1, .int x1), (2, .int x2), (3, .int x3), (4, .int x4), (5, .int x5)] [] G Q := by
  refine E_iconst (v := 0) dX12_near_111 (by decide) ?_
  exact EvL.tr hB rfl

set_option maxRecDepth 20000 in
set_option maxHeartbeats 2000000 in
theorem kX12_near_112 {K : KT} {G : St} {Q : Int64 → St → Prop} {x1 : Int32} {x2 : Int32} {x3 : Int32} {x4 : Int32} {x5 : Int32} {xs0 : Int32} (hL : Lay G.2.2) 
    (hB : ((xs0 = 0 → EvL K mX12_near 4 134 [(0, .ref 66), (1, .int x1), (2, .int x2), (3, .int x3), (5, .int x5)] [.int x4] G Q) ∧ (¬ xs0 = 0 → EvI K mX12_isFirstCell 2 0 [(0, .ref 66), (1, .int x5)] [] G (fun r1 G1 => ((r1 = 0 → EvL K mX12_near 4 134 [(0, .ref 66), (1, .int x1), (2, .int x2), (3, .int x3), (5, .int x5)] [.int x4] G1 Q) ∧ (¬ r1 = 0 → EvL K mX12_near 4 135 [(0, .ref 66), (1, .int x1), (2, .int x2), (3, .int x3), (5, .int x5)] [.int 1, .int x4] G1 Q)))))) :
    EvL K mX12_near 4 112 [(0, .ref 66), (1, .int x1), (2, .int x2), (3, .int x3), (4, .int x4), (5, .int x5)] [.int xs0] G Q := by
  refine E_istore (lv' := [(0, .ref 66), (1, .int x1), (2, .int x2), (3, .int x3), (4, .int x4), (5, .int x5), (6, .int xs0)]) dX12_near_112 (by decide) rfl ?_
  refine E_iload 4 dX12_near_114 rfl ?_
  refine E_iload 6 dX12_near_116 rfl ?_
  refine E_if_eq (tgt := 134) dX12_near_118 (by decide) (fun c => ?_) (fun c => ?_)
  · have hB := hB.1 c
    refine E_sub (lv' := [(0, .ref 66), (1, .int x1), (2, .int x2), (3, .int x3), (5, .int x5)]) [0, 1, 2, 3, 5] rfl ?_
    exact EvL.tr hB rfl
  · have hB := hB.2 c
    refine E_aload_n 0 dX12_near_121 rfl rfl rfl ?_
    refine E_iload 5 dX12_near_122 rfl ?_
    refine E_cV (ci := 11) (as := [.int x5]) (st := [.int x4]) cm_X12_isFirstCell cV_X12_453 ⟨_, _, rfl⟩ (by decide) (lo_66 hL) rfl rfl (by decide) (Nat.le_of_ble_eq_true rfl) (Nat.le_of_ble_eq_true rfl) dX12_near_124 hB (fun r G1 hr => ?_)
    obtain ⟨r1, rfl, hE1, hB⟩ := hr
    have hL1 : Lay G1.2.2 := by rw [hE1]; exact hL
    have hE1 : G1.2.2 = G.2.2 := hE1
    show Ev K mX12_near 4 127 [(0, .ref 66), (1, .int x1), (2, .int x2), (3, .int x3), (4, .int x4), (5, .int x5), (6, .int xs0)] [.int r1, .int x4] G1 _
    refine E_if_eq (tgt := 134) dX12_near_127 (by decide) (fun c => ?_) (fun c => ?_)
    · have hB := hB.1 c
      refine E_sub (lv' := [(0, .ref 66), (1, .int x1), (2, .int x2), (3, .int x3), (5, .int x5)]) [0, 1, 2, 3, 5] rfl ?_
      exact EvL.tr hB hE1
    · have hB := hB.2 c
      refine E_iconst (v := 1) dX12_near_130 (by decide) ?_
      refine E_goto (tgt := 135) dX12_near_131 (by decide) ?_
      refine E_sub (lv' := [(0, .ref 66), (1, .int x1), (2, .int x2), (3, .int x3), (5, .int x5)]) [0, 1, 2, 3, 5] rfl ?_
      exact EvL.tr hB hE1

set_option maxRecDepth 20000 in
set_option maxHeartbeats 2000000 in
theorem kX12_near_134 {K : KT} {G : St} {Q : Int64 → St → Prop} {x1 : Int32} {x2 : Int32} {x3 : Int32} {x5 : Int32} {xs0 : Int32} (hL : Lay G.2.2) 
    (hB : EvL K mX12_near 4 135 [(0, .ref 66), (1, .int x1), (2, .int x2), (3, .int x3), (5, .int x5)] [.int 0, .int xs0] G Q) :
    EvL K mX12_near 4 134 [(0, .ref 66), (1, .int x1), (2, .int x2), (3, .int x3), (5, .int x5)] [.int xs0] G Q := by
  refine E_iconst (v := 0) dX12_near_134 (by decide) ?_
  exact EvL.tr hB rfl

set_option maxRecDepth 20000 in
set_option maxHeartbeats 2000000 in
theorem kX12_near_135 {K : KT} {G : St} {Q : Int64 → St → Prop} {x1 : Int32} {x2 : Int32} {x3 : Int32} {x5 : Int32} {xs0 : Int32} {xs1 : Int32} (hL : Lay G.2.2) 
    (hB : EvL K mX12_near 4 63 [(0, .ref 66), (1, .int x1), (2, .int x2), (3, .int x3), (4, .int (xs0 + xs1)), (5, .int (x5 + 1))] [] G Q) :
    EvL K mX12_near 4 135 [(0, .ref 66), (1, .int x1), (2, .int x2), (3, .int x3), (5, .int x5)] [.int xs1, .int xs0] G Q := by
  refine E_iadd dX12_near_135 ?_
  refine E_istore (lv' := [(0, .ref 66), (1, .int x1), (2, .int x2), (3, .int x3), (4, .int (xs0 + xs1)), (5, .int x5)]) dX12_near_136 (by decide) rfl ?_
  refine E_iinc (v := x5 + 1) (lv' := [(0, .ref 66), (1, .int x1), (2, .int x2), (3, .int x3), (4, .int (xs0 + xs1)), (5, .int (x5 + 1))]) 5 dX12_near_138 rfl rfl (by decide) rfl ?_
  refine E_goto (tgt := 63) dX12_near_141 (by decide) ?_
  exact EvL.tr hB rfl

set_option maxRecDepth 20000 in
set_option maxHeartbeats 2000000 in
theorem kX12_near_157 {K : KT} {G : St} {Q : Int64 → St → Prop} {x1 : Int32} {x2 : Int32} {x3 : Int32} (hL : Lay G.2.2) 
    (hB : EvL K mX12_near 4 38 [(0, .ref 66), (1, .int x1), (2, .int x2), (3, .int (x3 + 1))] [] G Q) :
    EvL K mX12_near 4 157 [(0, .ref 66), (1, .int x1), (2, .int x2), (3, .int x3)] [] G Q := by
  refine E_iinc (v := x3 + 1) (lv' := [(0, .ref 66), (1, .int x1), (2, .int x2), (3, .int (x3 + 1))]) 3 dX12_near_157 rfl rfl (by decide) rfl ?_
  refine E_goto (tgt := 38) dX12_near_160 (by decide) ?_
  exact EvL.tr hB rfl

set_option maxRecDepth 20000 in
set_option maxHeartbeats 2000000 in
theorem kX12_bits_0 {K : KT} {G : St} {Q : Int32 → St → Prop} {x0 : Int32} (hL : Lay G.2.2) 
    (hB : EvI K mX12_bits 0 4 [(0, .int x0), (1, .int 0), (2, .int 0)] [] G Q) :
    EvI K mX12_bits 0 0 [(0, .int x0)] [] G Q := by
  refine E_iconst (v := 0) dX12_bits_0 (by decide) ?_
  refine E_istore_n (lv' := [(0, .int x0), (1, .int 0)]) dX12_bits_1 rfl (by decide) rfl ?_
  refine E_iconst (v := 0) dX12_bits_2 (by decide) ?_
  refine E_istore_n (lv' := [(0, .int x0), (1, .int 0), (2, .int 0)]) dX12_bits_3 rfl (by decide) rfl ?_
  exact EvI.tr hB rfl

set_option maxRecDepth 20000 in
set_option maxHeartbeats 2000000 in
theorem kX12_bits_4 {K : KT} {G : St} {Q : Int32 → St → Prop} {x0 : Int32} {x1 : Int32} {x2 : Int32} (hL : Lay G.2.2) 
    (hB : ((30 ≤ x2 → Q x1 G) ∧ (¬ 30 ≤ x2 → EvI K mX12_bits 0 4 [(0, .int x0), (1, .int (x1 + ((x0 >>> (x2 &&& 31)) &&& 1))), (2, .int (x2 + 1))] [] G Q))) :
    EvI K mX12_bits 0 4 [(0, .int x0), (1, .int x1), (2, .int x2)] [] G Q := by
  refine E_iload_n 2 dX12_bits_4 rfl rfl ?_
  refine E_bipush (v := 30) dX12_bits_5 (by decide) ?_
  refine E_icmp_ge (tgt := 24) dX12_bits_7 (by decide) (fun c => ?_) (fun c => ?_)
  · have hB := hB.1 c
    refine E_iload_n 1 dX12_bits_24 rfl rfl ?_
    exact E_iret rfl dX12_bits_25 ⟨_, rfl, rfl, hB⟩
  · have hB := hB.2 c
    refine E_iload_n 1 dX12_bits_10 rfl rfl ?_
    refine E_iload_n 0 dX12_bits_11 rfl rfl ?_
    refine E_iload_n 2 dX12_bits_12 rfl rfl ?_
    refine E_ishr dX12_bits_13 ?_
    refine E_iconst (v := 1) dX12_bits_14 (by decide) ?_
    refine E_iand dX12_bits_15 ?_
    refine E_iadd dX12_bits_16 ?_
    refine E_istore_n (lv' := [(0, .int x0), (1, .int (x1 + ((x0 >>> (x2 &&& 31)) &&& 1))), (2, .int x2)]) dX12_bits_17 rfl (by decide) rfl ?_
    refine E_iinc (v := x2 + 1) (lv' := [(0, .int x0), (1, .int (x1 + ((x0 >>> (x2 &&& 31)) &&& 1))), (2, .int (x2 + 1))]) 2 dX12_bits_18 rfl rfl (by decide) rfl ?_
    refine E_goto (tgt := 4) dX12_bits_21 (by decide) ?_
    exact EvI.tr hB rfl

set_option maxRecDepth 20000 in
set_option maxHeartbeats 2000000 in
theorem kX12_isHeld_0 {K : KT} {G : St} {Q : Int32 → St → Prop} {x1 : Int32} (hL : Lay G.2.2) 
    (hB : EvI K mX12_isHeld 2 2 [(0, .ref 66), (1, .int x1), (2, .int 1)] [] G Q) :
    EvI K mX12_isHeld 2 0 [(0, .ref 66), (1, .int x1)] [] G Q := by
  refine E_iconst (v := 1) dX12_isHeld_0 (by decide) ?_
  refine E_istore_n (lv' := [(0, .ref 66), (1, .int x1), (2, .int 1)]) dX12_isHeld_1 rfl (by decide) rfl ?_
  exact EvI.tr hB rfl

set_option maxRecDepth 20000 in
set_option maxHeartbeats 2000000 in
theorem kX12_isHeld_2 {K : KT} {G : St} {Q : Int32 → St → Prop} {x1 : Int32} {x2 : Int32} (hL : Lay G.2.2) 
    (hB : (((sI G 66 27) < x2 → Q 0 G) ∧ (¬ (sI G 66 27) < x2 → (((sI G 66 16) < x2 → Q 0 G) ∧ (¬ (sI G 66 16) < x2 → EvI K mX12_isHeld 2 24 [(0, .ref 66), (1, .int x1), (2, .int x2), (3, .int ((1 <<< (x2 &&& 31)) - 1))] [] G Q))))) :
    EvI K mX12_isHeld 2 2 [(0, .ref 66), (1, .int x1), (2, .int x2)] [] G Q := by
  refine E_iload_n 2 dX12_isHeld_2 rfl rfl ?_
  refine E_aload_n 0 dX12_isHeld_3 rfl rfl rfl ?_
  refine E_gI (v := sI G 66 27) fG_X12_149 rfl (lo_66 hL) rfl dX12_isHeld_4 ?_
  refine E_icmp_gt (tgt := 81) dX12_isHeld_7 (by decide) (fun c => ?_) (fun c => ?_)
  · have hB := hB.1 c
    refine E_iconst (v := 0) dX12_isHeld_81 (by decide) ?_
    exact E_zret rfl (Or.inl rfl) dX12_isHeld_82 ⟨_, rfl, rfl, hB⟩
  · have hB := hB.2 c
    refine E_iload_n 2 dX12_isHeld_10 rfl rfl ?_
    refine E_aload_n 0 dX12_isHeld_11 rfl rfl rfl ?_
    refine E_gI (v := sI G 66 16) fG_X12_223 rfl (lo_66 hL) rfl dX12_isHeld_12 ?_
    refine E_icmp_gt (tgt := 81) dX12_isHeld_15 (by decide) (fun c => ?_) (fun c => ?_)
    · have hB := hB.1 c
      refine E_iconst (v := 0) dX12_isHeld_81 (by decide) ?_
      exact E_zret rfl (Or.inl rfl) dX12_isHeld_82 ⟨_, rfl, rfl, hB⟩
    · have hB := hB.2 c
      refine E_iconst (v := 1) dX12_isHeld_18 (by decide) ?_
      refine E_iload_n 2 dX12_isHeld_19 rfl rfl ?_
      refine E_ishl dX12_isHeld_20 ?_
      refine E_iconst (v := 1) dX12_isHeld_21 (by decide) ?_
      refine E_isub dX12_isHeld_22 ?_
      refine E_istore_n (lv' := [(0, .ref 66), (1, .int x1), (2, .int x2), (3, .int ((1 <<< (x2 &&& 31)) - 1))]) dX12_isHeld_23 rfl (by decide) rfl ?_
      exact EvI.tr hB rfl

set_option maxRecDepth 20000 in
set_option maxHeartbeats 2000000 in
theorem kX12_isHeld_24 {K : KT} {G : St} {Q : Int32 → St → Prop} {x1 : Int32} {x2 : Int32} {x3 : Int32} (hL : Lay G.2.2) 
    (hB : (((1 <<< ((sI G 66 16) &&& 31)) ≤ x3 → EvI K mX12_isHeld 2 2 [(0, .ref 66), (1, .int x1), (2, .int (x2 + 1))] [] G Q) ∧ (¬ (1 <<< ((sI G 66 16) &&& 31)) ≤ x3 → ((¬ (x3 &&& ((sI G 66 37) ^^^ (-1))) = 0 → EvI K mX12_isHeld 2 67 [(0, .ref 66), (1, .int x1), (2, .int x2), (3, .int x3)] [] G Q) ∧ ((x3 &&& ((sI G 66 37) ^^^ (-1))) = 0 → EvI K mX12_heldIn 1 0 [(0, .ref 66), (1, .int x3)] [] G (fun r1 G1 => ((¬ (x1 &&& (r1 ^^^ (-1))) = 0 → EvI K mX12_isHeld 2 67 [(0, .ref 66), (1, .int x1), (2, .int x2), (3, .int x3)] [] G1 Q) ∧ ((x1 &&& (r1 ^^^ (-1))) = 0 → EvI K mX12_hang 1 0 [(0, .ref 66), (1, .int x3)] [] G1 (fun r2 G2 => ((r2 = 0 → EvI K mX12_isHeld 2 67 [(0, .ref 66), (1, .int x1), (2, .int x2), (3, .int x3)] [] G2 Q) ∧ (¬ r2 = 0 → Q 1 G2))))))))))) :
    EvI K mX12_isHeld 2 24 [(0, .ref 66), (1, .int x1), (2, .int x2), (3, .int x3)] [] G Q := by
  refine E_iload_n 3 dX12_isHeld_24 rfl rfl ?_
  refine E_iconst (v := 1) dX12_isHeld_25 (by decide) ?_
  refine E_aload_n 0 dX12_isHeld_26 rfl rfl rfl ?_
  refine E_gI (v := sI G 66 16) fG_X12_223 rfl (lo_66 hL) rfl dX12_isHeld_27 ?_
  refine E_ishl dX12_isHeld_30 ?_
  refine E_icmp_ge (tgt := 75) dX12_isHeld_31 (by decide) (fun c => ?_) (fun c => ?_)
  · have hB := hB.1 c
    refine E_iinc (v := x2 + 1) (lv' := [(0, .ref 66), (1, .int x1), (2, .int (x2 + 1)), (3, .int x3)]) 2 dX12_isHeld_75 rfl rfl (by decide) rfl ?_
    refine E_goto (tgt := 2) dX12_isHeld_78 (by decide) ?_
    refine E_sub (lv' := [(0, .ref 66), (1, .int x1), (2, .int (x2 + 1))]) [0, 1, 2] rfl ?_
    exact EvI.tr hB rfl
  · have hB := hB.2 c
    refine E_iload_n 3 dX12_isHeld_34 rfl rfl ?_
    refine E_aload_n 0 dX12_isHeld_35 rfl rfl rfl ?_
    refine E_gI (v := sI G 66 37) fG_X12_337 rfl (lo_66 hL) rfl dX12_isHeld_36 ?_
    refine E_iconst (v := (-1)) dX12_isHeld_39 (by decide) ?_
    refine E_ixor dX12_isHeld_40 ?_
    refine E_iand dX12_isHeld_41 ?_
    refine E_if_ne (tgt := 67) dX12_isHeld_42 (by decide) (fun c => ?_) (fun c => ?_)
    · have hB := hB.1 c
      exact EvI.tr hB rfl
    · have hB := hB.2 c
      refine E_iload_n 1 dX12_isHeld_45 rfl rfl ?_
      refine E_aload_n 0 dX12_isHeld_46 rfl rfl rfl ?_
      refine E_iload_n 3 dX12_isHeld_47 rfl rfl ?_
      refine E_cV (ci := 11) (as := [.int x3]) (st := [.int x1]) cm_X12_heldIn cV_X12_354 ⟨_, _, rfl⟩ (by decide) (lo_66 hL) rfl rfl (by decide) (Nat.le_of_ble_eq_true rfl) (Nat.le_of_ble_eq_true rfl) dX12_isHeld_48 hB (fun r G1 hr => ?_)
      obtain ⟨r1, rfl, hE1, hB⟩ := hr
      have hL1 : Lay G1.2.2 := by rw [hE1]; exact hL
      have hE1 : G1.2.2 = G.2.2 := hE1
      show Ev K mX12_isHeld 2 51 [(0, .ref 66), (1, .int x1), (2, .int x2), (3, .int x3)] [.int r1, .int x1] G1 _
      refine E_iconst (v := (-1)) dX12_isHeld_51 (by decide) ?_
      refine E_ixor dX12_isHeld_52 ?_
      refine E_iand dX12_isHeld_53 ?_
      refine E_if_ne (tgt := 67) dX12_isHeld_54 (by decide) (fun c => ?_) (fun c => ?_)
      · have hB := hB.1 c
        exact EvI.tr hB hE1
      · have hB := hB.2 c
        refine E_aload_n 0 dX12_isHeld_57 rfl rfl rfl ?_
        refine E_iload_n 3 dX12_isHeld_58 rfl rfl ?_
        refine E_cV (ci := 11) (as := [.int x3]) (st := []) cm_X12_hang cV_X12_357 ⟨_, _, rfl⟩ (by decide) (lo_66 hL1) rfl rfl (by decide) (Nat.le_of_ble_eq_true rfl) (Nat.le_of_ble_eq_true rfl) dX12_isHeld_59 hB (fun r G2 hr => ?_)
        obtain ⟨r2, rfl, hE2, hB⟩ := hr
        have hL2 : Lay G2.2.2 := by rw [hE2]; exact hL1
        have hE2 : G2.2.2 = G.2.2 := hE2.trans hE1
        show Ev K mX12_isHeld 2 62 [(0, .ref 66), (1, .int x1), (2, .int x2), (3, .int x3)] [.int r2] G2 _
        refine E_if_eq (tgt := 67) dX12_isHeld_62 (by decide) (fun c => ?_) (fun c => ?_)
        · have hB := hB.1 c
          exact EvI.tr hB hE2
        · have hB := hB.2 c
          refine E_iconst (v := 1) dX12_isHeld_65 (by decide) ?_
          exact E_zret rfl (Or.inr rfl) dX12_isHeld_66 ⟨_, rfl, hE2, hB⟩

set_option maxRecDepth 20000 in
set_option maxHeartbeats 2000000 in
theorem kX12_isHeld_67 {K : KT} {G : St} {Q : Int32 → St → Prop} {x1 : Int32} {x2 : Int32} {x3 : Int32} (hL : Lay G.2.2) 
    (hB : EvI K mX12_nextOf 0 0 [(0, .int x3)] [] G (fun r1 G1 => EvI K mX12_isHeld 2 24 [(0, .ref 66), (1, .int x1), (2, .int x2), (3, .int r1)] [] G1 Q)) :
    EvI K mX12_isHeld 2 67 [(0, .ref 66), (1, .int x1), (2, .int x2), (3, .int x3)] [] G Q := by
  refine E_iload_n 3 dX12_isHeld_67 rfl rfl ?_
  refine E_callS (as := [.int x3]) (st := []) cm_X12_nextOf cS_X12_378 rfl rfl (by decide) (Nat.le_of_ble_eq_true rfl) (Nat.le_of_ble_eq_true rfl) dX12_isHeld_68 hB (fun r G1 hr => ?_)
  obtain ⟨r1, rfl, hE1, hB⟩ := hr
  have hL1 : Lay G1.2.2 := by rw [hE1]; exact hL
  have hE1 : G1.2.2 = G.2.2 := hE1
  show Ev K mX12_isHeld 2 71 [(0, .ref 66), (1, .int x1), (2, .int x2), (3, .int x3)] [.int r1] G1 _
  refine E_istore_n (lv' := [(0, .ref 66), (1, .int x1), (2, .int x2), (3, .int r1)]) dX12_isHeld_71 rfl (by decide) rfl ?_
  refine E_goto (tgt := 24) dX12_isHeld_72 (by decide) ?_
  exact EvI.tr hB hE1

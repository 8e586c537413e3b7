set_option maxRecDepth 20000 in
set_option maxHeartbeats 2000000 in
theorem kX6_has_0 {K : KT} {G : St} {Q : Int32 → St → Prop} {x1 : Int32} (hL : Lay G.2.2) 
    (hB : ((x1 < 0 → Q 0 G) ∧ (¬ x1 < 0 → (((sI G 18 17) ≤ x1 → Q 0 G) ∧ (¬ (sI G 18 17) ≤ x1 → Q 1 G))))) :
    EvI K mX6_has 0 0 [(0, .ref 18), (1, .int x1)] [] G Q := by
  refine E_iload_n 1 dX6_has_0 rfl rfl ?_
  refine E_if_lt (tgt := 16) dX6_has_1 (by decide) (fun c => ?_) (fun c => ?_)
  · have hB := hB.1 c
    refine E_iconst (v := 0) dX6_has_16 (by decide) ?_
    exact E_zret rfl (Or.inl rfl) dX6_has_17 ⟨_, rfl, rfl, hB⟩
  · have hB := hB.2 c
    refine E_iload_n 1 dX6_has_4 rfl rfl ?_
    refine E_aload_n 0 dX6_has_5 rfl rfl rfl ?_
    refine E_gI (v := sI G 18 17) fG_X6_60 rfl (lo_18 hL) rfl dX6_has_6 ?_
    refine E_icmp_ge (tgt := 16) dX6_has_9 (by decide) (fun c => ?_) (fun c => ?_)
    · have hB := hB.1 c
      refine E_iconst (v := 0) dX6_has_16 (by decide) ?_
      exact E_zret rfl (Or.inl rfl) dX6_has_17 ⟨_, rfl, rfl, hB⟩
    · have hB := hB.2 c
      refine E_iconst (v := 1) dX6_has_12 (by decide) ?_
      refine E_goto (tgt := 17) dX6_has_13 (by decide) ?_
      exact E_zret rfl (Or.inr rfl) dX6_has_17 ⟨_, rfl, rfl, hB⟩

set_option maxRecDepth 20000 in
set_option maxHeartbeats 2000000 in
theorem kX6_setOf_0 {K : KT} {G : St} {Q : Int32 → St → Prop} {x1 : Int32} (hL : Lay G.2.2) 
    (hB : EvI K mX6_has 0 0 [(0, .ref 18), (1, .int x1)] [] G (fun r1 G1 => ((r1 = 0 → Q 0 G1) ∧ (¬ r1 = 0 → vp_in x1 (sN G1 (sR G1 18 10)) ∧ Q (Int64.toInt32 ((sL G1 (sR G1 18 10) (Int32.toNatClampNeg x1)) &&& 1073741823)) G1)))) :
    EvI K mX6_setOf 1 0 [(0, .ref 18), (1, .int x1)] [] G Q := by
  refine E_aload_n 0 dX6_setOf_0 rfl rfl rfl ?_
  refine E_iload_n 1 dX6_setOf_1 rfl rfl ?_
  refine E_cV (ci := 6) (as := [.int x1]) (st := []) cm_X6_has cV_X6_164 ⟨_, _, rfl⟩ (by decide) (lo_18 hL) rfl rfl (by decide) (Nat.le_of_ble_eq_true rfl) (Nat.le_of_ble_eq_true rfl) dX6_setOf_2 hB (fun r G1 hr => ?_)
  obtain ⟨r1, rfl, hE1, hB⟩ := hr
  have hL1 : Lay G1.2.2 := by rw [hE1]; exact hL
  have hE1 : G1.2.2 = G.2.2 := hE1
  show Ev K mX6_setOf 1 5 [(0, .ref 18), (1, .int x1)] [.int r1] G1 _
  refine E_if_eq (tgt := 22) dX6_setOf_5 (by decide) (fun c => ?_) (fun c => ?_)
  · have hB := hB.1 c
    refine E_iconst (v := 0) dX6_setOf_22 (by decide) ?_
    exact E_iret rfl dX6_setOf_23 ⟨_, rfl, hE1, hB⟩
  · have hB := hB.2 c
    refine E_aload_n 0 dX6_setOf_8 rfl rfl rfl ?_
    refine E_gR (j := sR G1 18 10) fG_X6_39 rfl (lo_18 hL1) rfl (lg_18_10 hL1).2.1 dX6_setOf_9 ?_
    refine E_iload_n 1 dX6_setOf_12 rfl rfl ?_
    obtain ⟨qq2, hB⟩ := hB
    refine E_aL (p := Int32.toNatClampNeg x1) (v := sL G1 (sR G1 18 10) (Int32.toNatClampNeg x1)) (lg_18_10 hL1) qq2 rfl rfl dX6_setOf_13 ?_
    refine E_ldc2 (v := 1073741823) tm_853 dX6_setOf_14 ?_
    refine E_land dX6_setOf_17 ?_
    refine E_l2i dX6_setOf_18 rfl ?_
    refine E_goto (tgt := 23) dX6_setOf_19 (by decide) ?_
    exact E_iret rfl dX6_setOf_23 ⟨_, rfl, hE1, hB⟩

set_option maxRecDepth 20000 in
set_option maxHeartbeats 2000000 in
theorem kX6_rowsOfAll_0 {K : KT} {G : St} {Q : Int32 → St → Prop}  (hL : Lay G.2.2) 
    (hB : EvI K mX6_rowsOfAll 2 4 [(0, .ref 18), (1, .int 0), (2, .int 0)] [] G Q) :
    EvI K mX6_rowsOfAll 2 0 [(0, .ref 18)] [] G Q := by
  refine E_iconst (v := 0) dX6_rowsOfAll_0 (by decide) ?_
  refine E_istore_n (lv' := [(0, .ref 18), (1, .int 0)]) dX6_rowsOfAll_1 rfl (by decide) rfl ?_
  refine E_iconst (v := 0) dX6_rowsOfAll_2 (by decide) ?_
  refine E_istore_n (lv' := [(0, .ref 18), (1, .int 0), (2, .int 0)]) dX6_rowsOfAll_3 rfl (by decide) rfl ?_
  exact EvI.tr hB rfl

set_option maxRecDepth 20000 in
set_option maxHeartbeats 2000000 in
theorem kX6_rowsOfAll_4 {K : KT} {G : St} {Q : Int32 → St → Prop} {x1 : Int32} {x2 : Int32} (hL : Lay G.2.2) 
    (hB : (((sI G 18 17) ≤ x2 → Q x1 G) ∧ (¬ (sI G 18 17) ≤ x2 → EvI K mX6_setOf 1 0 [(0, .ref 18), (1, .int x2)] [] G (fun r1 G1 => EvI K mX6_rowsOfAll 2 4 [(0, .ref 18), (1, .int (x1 ||| r1)), (2, .int (x2 + 1))] [] G1 Q)))) :
    EvI K mX6_rowsOfAll 2 4 [(0, .ref 18), (1, .int x1), (2, .int x2)] [] G Q := by
  refine E_iload_n 2 dX6_rowsOfAll_4 rfl rfl ?_
  refine E_aload_n 0 dX6_rowsOfAll_5 rfl rfl rfl ?_
  refine E_gI (v := sI G 18 17) fG_X6_60 rfl (lo_18 hL) rfl dX6_rowsOfAll_6 ?_
  refine E_icmp_ge (tgt := 26) dX6_rowsOfAll_9 (by decide) (fun c => ?_) (fun c => ?_)
  · have hB := hB.1 c
    refine E_iload_n 1 dX6_rowsOfAll_26 rfl rfl ?_
    exact E_iret rfl dX6_rowsOfAll_27 ⟨_, rfl, rfl, hB⟩
  · have hB := hB.2 c
    refine E_iload_n 1 dX6_rowsOfAll_12 rfl rfl ?_
    refine E_aload_n 0 dX6_rowsOfAll_13 rfl rfl rfl ?_
    refine E_iload_n 2 dX6_rowsOfAll_14 rfl rfl ?_
    refine E_cV (ci := 6) (as := [.int x2]) (st := [.int x1]) cm_X6_setOf cV_X6_167 ⟨_, _, rfl⟩ (by decide) (lo_18 hL) rfl rfl (by decide) (Nat.le_of_ble_eq_true rfl) (Nat.le_of_ble_eq_true rfl) dX6_rowsOfAll_15 hB (fun r G1 hr => ?_)
    obtain ⟨r1, rfl, hE1, hB⟩ := hr
    have hL1 : Lay G1.2.2 := by rw [hE1]; exact hL
    have hE1 : G1.2.2 = G.2.2 := hE1
    show Ev K mX6_rowsOfAll 2 18 [(0, .ref 18), (1, .int x1), (2, .int x2)] [.int r1, .int x1] G1 _
    refine E_ior dX6_rowsOfAll_18 ?_
    refine E_istore_n (lv' := [(0, .ref 18), (1, .int (x1 ||| r1)), (2, .int x2)]) dX6_rowsOfAll_19 rfl (by decide) rfl ?_
    refine E_iinc (v := x2 + 1) (lv' := [(0, .ref 18), (1, .int (x1 ||| r1)), (2, .int (x2 + 1))]) 2 dX6_rowsOfAll_20 rfl rfl (by decide) rfl ?_
    refine E_goto (tgt := 4) dX6_rowsOfAll_23 (by decide) ?_
    exact EvI.tr hB hE1

set_option maxRecDepth 20000 in
set_option maxHeartbeats 2000000 in
theorem kX6_greaterPart_0 {K : KT} {G : St} {Q : Int32 → St → Prop} {x1 : Int32} (hL : Lay G.2.2) 
    (hB : EvI K mX6_greaterPart 2 4 [(0, .ref 18), (1, .int x1), (2, .int 0), (3, .int 0)] [] G Q) :
    EvI K mX6_greaterPart 2 0 [(0, .ref 18), (1, .int x1)] [] G Q := by
  refine E_iconst (v := 0) dX6_greaterPart_0 (by decide) ?_
  refine E_istore_n (lv' := [(0, .ref 18), (1, .int x1), (2, .int 0)]) dX6_greaterPart_1 rfl (by decide) rfl ?_
  refine E_iconst (v := 0) dX6_greaterPart_2 (by decide) ?_
  refine E_istore_n (lv' := [(0, .ref 18), (1, .int x1), (2, .int 0), (3, .int 0)]) dX6_greaterPart_3 rfl (by decide) rfl ?_
  exact EvI.tr hB rfl

set_option maxRecDepth 20000 in
set_option maxHeartbeats 2000000 in
theorem kX6_greaterPart_4 {K : KT} {G : St} {Q : Int32 → St → Prop} {x1 : Int32} {x2 : Int32} {x3 : Int32} (hL : Lay G.2.2) 
    (hB : (((sI G 18 17) ≤ x3 → EvI K mJ9_max_7cf53 0 0 [(0, .int x2), (1, .int ((sI G 18 17) - x2))] [] G (fun r1 G1 => Q r1 G1)) ∧ (¬ (sI G 18 17) ≤ x3 → EvI K mX6_setOf 1 0 [(0, .ref 18), (1, .int x3)] [] G (fun r2 G2 => (((r2 &&& x1) = 0 → EvI K mX6_greaterPart 2 28 [(0, .ref 18), (1, .int x1), (3, .int x3)] [.int 0, .int x2] G2 Q) ∧ (¬ (r2 &&& x1) = 0 → EvI K mX6_greaterPart 2 28 [(0, .ref 18), (1, .int x1), (3, .int x3)] [.int 1, .int x2] G2 Q)))))) :
    EvI K mX6_greaterPart 2 4 [(0, .ref 18), (1, .int x1), (2, .int x2), (3, .int x3)] [] G Q := by
  refine E_iload_n 3 dX6_greaterPart_4 rfl rfl ?_
  refine E_aload_n 0 dX6_greaterPart_5 rfl rfl rfl ?_
  refine E_gI (v := sI G 18 17) fG_X6_60 rfl (lo_18 hL) rfl dX6_greaterPart_6 ?_
  refine E_icmp_ge (tgt := 36) dX6_greaterPart_9 (by decide) (fun c => ?_) (fun c => ?_)
  · have hB := hB.1 c
    refine E_iload_n 2 dX6_greaterPart_36 rfl rfl ?_
    refine E_aload_n 0 dX6_greaterPart_37 rfl rfl rfl ?_
    refine E_gI (v := sI G 18 17) fG_X6_60 rfl (lo_18 hL) rfl dX6_greaterPart_38 ?_
    refine E_iload_n 2 dX6_greaterPart_41 rfl rfl ?_
    refine E_isub dX6_greaterPart_42 ?_
    refine E_callS (as := [.int x2, .int ((sI G 18 17) - x2)]) (st := []) cm_J9_max_7cf53 cS_X6_151 rfl rfl (by decide) (Nat.le_of_ble_eq_true rfl) (Nat.le_of_ble_eq_true rfl) dX6_greaterPart_43 hB (fun r G1 hr => ?_)
    obtain ⟨r1, rfl, hE1, hB⟩ := hr
    have hL1 : Lay G1.2.2 := by rw [hE1]; exact hL
    have hE1 : G1.2.2 = G.2.2 := hE1
    show Ev K mX6_greaterPart 2 46 [(0, .ref 18), (1, .int x1), (2, .int x2), (3, .int x3)] [.int r1] G1 _
    exact E_iret rfl dX6_greaterPart_46 ⟨_, rfl, hE1, hB⟩
  · have hB := hB.2 c
    refine E_iload_n 2 dX6_greaterPart_12 rfl rfl ?_
    refine E_aload_n 0 dX6_greaterPart_13 rfl rfl rfl ?_
    refine E_iload_n 3 dX6_greaterPart_14 rfl rfl ?_
    refine E_cV (ci := 6) (as := [.int x3]) (st := [.int x2]) cm_X6_setOf cV_X6_167 ⟨_, _, rfl⟩ (by decide) (lo_18 hL) rfl rfl (by decide) (Nat.le_of_ble_eq_true rfl) (Nat.le_of_ble_eq_true rfl) dX6_greaterPart_15 hB (fun r G2 hr => ?_)
    obtain ⟨r2, rfl, hE2, hB⟩ := hr
    have hL2 : Lay G2.2.2 := by rw [hE2]; exact hL
    have hE2 : G2.2.2 = G.2.2 := hE2
    show Ev K mX6_greaterPart 2 18 [(0, .ref 18), (1, .int x1), (2, .int x2), (3, .int x3)] [.int r2, .int x2] G2 _
    refine E_iload_n 1 dX6_greaterPart_18 rfl rfl ?_
    refine E_iand dX6_greaterPart_19 ?_
    refine E_if_eq (tgt := 27) dX6_greaterPart_20 (by decide) (fun c => ?_) (fun c => ?_)
    · have hB := hB.1 c
      refine E_iconst (v := 0) dX6_greaterPart_27 (by decide) ?_
      refine E_sub (lv' := [(0, .ref 18), (1, .int x1), (3, .int x3)]) [0, 1, 3] rfl ?_
      exact EvI.tr hB hE2
    · have hB := hB.2 c
      refine E_iconst (v := 1) dX6_greaterPart_23 (by decide) ?_
      refine E_goto (tgt := 28) dX6_greaterPart_24 (by decide) ?_
      refine E_sub (lv' := [(0, .ref 18), (1, .int x1), (3, .int x3)]) [0, 1, 3] rfl ?_
      exact EvI.tr hB hE2

set_option maxRecDepth 20000 in
set_option maxHeartbeats 2000000 in
theorem kX6_greaterPart_28 {K : KT} {G : St} {Q : Int32 → St → Prop} {x1 : Int32} {x3 : Int32} {xs0 : Int32} {xs1 : Int32} (hL : Lay G.2.2) 
    (hB : EvI K mX6_greaterPart 2 4 [(0, .ref 18), (1, .int x1), (2, .int (xs0 + xs1)), (3, .int (x3 + 1))] [] G Q) :
    EvI K mX6_greaterPart 2 28 [(0, .ref 18), (1, .int x1), (3, .int x3)] [.int xs1, .int xs0] G Q := by
  refine E_iadd dX6_greaterPart_28 ?_
  refine E_istore_n (lv' := [(0, .ref 18), (1, .int x1), (2, .int (xs0 + xs1)), (3, .int x3)]) dX6_greaterPart_29 rfl (by decide) rfl ?_
  refine E_iinc (v := x3 + 1) (lv' := [(0, .ref 18), (1, .int x1), (2, .int (xs0 + xs1)), (3, .int (x3 + 1))]) 3 dX6_greaterPart_30 rfl rfl (by decide) rfl ?_
  refine E_goto (tgt := 4) dX6_greaterPart_33 (by decide) ?_
  exact EvI.tr hB rfl

set_option maxRecDepth 20000 in
set_option maxHeartbeats 2000000 in
theorem kX6_holdsAll_0 {K : KT} {G : St} {Q : Int32 → St → Prop} {x1 : Int32} (hL : Lay G.2.2) 
    (hB : EvI K mX6_holdsAll 0 2 [(0, .ref 18), (1, .int x1), (2, .int 0)] [] G Q) :
    EvI K mX6_holdsAll 0 0 [(0, .ref 18), (1, .int x1)] [] G Q := by
  refine E_iconst (v := 0) dX6_holdsAll_0 (by decide) ?_
  refine E_istore_n (lv' := [(0, .ref 18), (1, .int x1), (2, .int 0)]) dX6_holdsAll_1 rfl (by decide) rfl ?_
  exact EvI.tr hB rfl

set_option maxRecDepth 20000 in
set_option maxHeartbeats 2000000 in
theorem kX6_holdsAll_2 {K : KT} {G : St} {Q : Int32 → St → Prop} {x1 : Int32} {x2 : Int32} (hL : Lay G.2.2) 
    (hB : (((sI G 18 13) ≤ x2 → Q 1 G) ∧ (¬ (sI G 18 13) ≤ x2 → vp_in x2 4 ∧ ((¬ ((sI G 8 (Int32.toNatClampNeg x2)) &&& x1) = 0 → EvI K mX6_holdsAll 0 2 [(0, .ref 18), (1, .int x1), (2, .int (x2 + 1))] [] G Q) ∧ (((sI G 8 (Int32.toNatClampNeg x2)) &&& x1) = 0 → Q 0 G))))) :
    EvI K mX6_holdsAll 0 2 [(0, .ref 18), (1, .int x1), (2, .int x2)] [] G Q := by
  refine E_iload_n 2 dX6_holdsAll_2 rfl rfl ?_
  refine E_aload_n 0 dX6_holdsAll_3 rfl rfl rfl ?_
  refine E_gI (v := sI G 18 13) fG_X6_50 rfl (lo_18 hL) rfl dX6_holdsAll_4 ?_
  refine E_icmp_ge (tgt := 32) dX6_holdsAll_7 (by decide) (fun c => ?_) (fun c => ?_)
  · have hB := hB.1 c
    refine E_iconst (v := 1) dX6_holdsAll_32 (by decide) ?_
    exact E_zret rfl (Or.inr rfl) dX6_holdsAll_33 ⟨_, rfl, rfl, hB⟩
  · have hB := hB.2 c
    refine E_aload_n 0 dX6_holdsAll_10 rfl rfl rfl ?_
    refine E_gR (j := 5) fG_X6_46 rfl (lo_18 hL) (lr_18_1 hL) (by decide) dX6_holdsAll_11 ?_
    refine E_gR (j := 8) fG_X6_125 rfl (lo_5 hL) (lr_5_3 hL) (by decide) dX6_holdsAll_14 ?_
    refine E_iload_n 2 dX6_holdsAll_17 rfl rfl ?_
    obtain ⟨qq1, hB⟩ := hB
    refine E_aI (p := Int32.toNatClampNeg x2) (v := sI G 8 (Int32.toNatClampNeg x2)) (la_8 hL) qq1 rfl rfl dX6_holdsAll_18 ?_
    refine E_iload_n 1 dX6_holdsAll_19 rfl rfl ?_
    refine E_iand dX6_holdsAll_20 ?_
    refine E_if_ne (tgt := 26) dX6_holdsAll_21 (by decide) (fun c => ?_) (fun c => ?_)
    · have hB := hB.1 c
      refine E_iinc (v := x2 + 1) (lv' := [(0, .ref 18), (1, .int x1), (2, .int (x2 + 1))]) 2 dX6_holdsAll_26 rfl rfl (by decide) rfl ?_
      refine E_goto (tgt := 2) dX6_holdsAll_29 (by decide) ?_
      exact EvI.tr hB rfl
    · have hB := hB.2 c
      refine E_iconst (v := 0) dX6_holdsAll_24 (by decide) ?_
      exact E_zret rfl (Or.inl rfl) dX6_holdsAll_25 ⟨_, rfl, rfl, hB⟩

set_option maxRecDepth 20000 in
set_option maxHeartbeats 2000000 in
theorem kX6_hangsTogether_0 {K : KT} {G : St} {Q : Int32 → St → Prop} {x1 : Int32} (hL : Lay G.2.2) 
    (hB : EvI K mX6_hangsTogether 1 10 [(0, .ref 18), (1, .int x1), (2, .int (x1 &&& (-x1))), (3, .int (x1 &&& (-x1))), (4, .int 0)] [] G Q) :
    EvI K mX6_hangsTogether 1 0 [(0, .ref 18), (1, .int x1)] [] G Q := by
  refine E_iload_n 1 dX6_hangsTogether_0 rfl rfl ?_
  refine E_iload_n 1 dX6_hangsTogether_1 rfl rfl ?_
  refine E_ineg dX6_hangsTogether_2 ?_
  refine E_iand dX6_hangsTogether_3 ?_
  refine E_istore_n (lv' := [(0, .ref 18), (1, .int x1), (2, .int (x1 &&& (-x1)))]) dX6_hangsTogether_4 rfl (by decide) rfl ?_
  refine E_iload_n 2 dX6_hangsTogether_5 rfl rfl ?_
  refine E_istore_n (lv' := [(0, .ref 18), (1, .int x1), (2, .int (x1 &&& (-x1))), (3, .int (x1 &&& (-x1)))]) dX6_hangsTogether_6 rfl (by decide) rfl ?_
  refine E_iconst (v := 0) dX6_hangsTogether_7 (by decide) ?_
  refine E_istore (lv' := [(0, .ref 18), (1, .int x1), (2, .int (x1 &&& (-x1))), (3, .int (x1 &&& (-x1))), (4, .int 0)]) dX6_hangsTogether_8 (by decide) rfl ?_
  exact EvI.tr hB rfl

set_option maxRecDepth 20000 in
set_option maxHeartbeats 2000000 in
theorem kX6_hangsTogether_10 {K : KT} {G : St} {Q : Int32 → St → Prop} {x1 : Int32} {x2 : Int32} {x3 : Int32} {x4 : Int32} (hL : Lay G.2.2) 
    (hB : ((5 ≤ x4 → EvI K mX6_hangsTogether 1 82 [(1, .int x1), (2, .int x2)] [] G Q) ∧ (¬ 5 ≤ x4 → ((x3 = 0 → EvI K mX6_hangsTogether 1 82 [(1, .int x1), (2, .int x2)] [] G Q) ∧ (¬ x3 = 0 → EvI K mJ6_bitCount_0f7a4 0 0 [(0, .int x3)] [] G (fun r1 G1 => EvI K mX6_hangsTogether 1 29 [(0, .ref 18), (1, .int x1), (2, .int x2), (3, .int x3), (4, .int x4), (5, .int 0), (6, .int r1)] [] G1 Q)))))) :
    EvI K mX6_hangsTogether 1 10 [(0, .ref 18), (1, .int x1), (2, .int x2), (3, .int x3), (4, .int x4)] [] G Q := by
  refine E_iload 4 dX6_hangsTogether_10 rfl ?_
  refine E_iconst (v := 5) dX6_hangsTogether_12 (by decide) ?_
  refine E_icmp_ge (tgt := 82) dX6_hangsTogether_13 (by decide) (fun c => ?_) (fun c => ?_)
  · have hB := hB.1 c
    refine E_sub (lv' := [(1, .int x1), (2, .int x2)]) [1, 2] rfl ?_
    exact EvI.tr hB rfl
  · have hB := hB.2 c
    refine E_iload_n 3 dX6_hangsTogether_16 rfl rfl ?_
    refine E_if_eq (tgt := 82) dX6_hangsTogether_17 (by decide) (fun c => ?_) (fun c => ?_)
    · have hB := hB.1 c
      refine E_sub (lv' := [(1, .int x1), (2, .int x2)]) [1, 2] rfl ?_
      exact EvI.tr hB rfl
    · have hB := hB.2 c
      refine E_iconst (v := 0) dX6_hangsTogether_20 (by decide) ?_
      refine E_istore (lv' := [(0, .ref 18), (1, .int x1), (2, .int x2), (3, .int x3), (4, .int x4), (5, .int 0)]) dX6_hangsTogether_21 (by decide) rfl ?_
      refine E_iload_n 3 dX6_hangsTogether_23 rfl rfl ?_
      refine E_callS (as := [.int x3]) (st := []) cm_J6_bitCount_0f7a4 cS_X6_86 rfl rfl (by decide) (Nat.le_of_ble_eq_true rfl) (Nat.le_of_ble_eq_true rfl) dX6_hangsTogether_24 hB (fun r G1 hr => ?_)
      obtain ⟨r1, rfl, hE1, hB⟩ := hr
      have hL1 : Lay G1.2.2 := by rw [hE1]; exact hL
      have hE1 : G1.2.2 = G.2.2 := hE1
      show Ev K mX6_hangsTogether 1 27 [(0, .ref 18), (1, .int x1), (2, .int x2), (3, .int x3), (4, .int x4), (5, .int 0)] [.int r1] G1 _
      refine E_istore (lv' := [(0, .ref 18), (1, .int x1), (2, .int x2), (3, .int x3), (4, .int x4), (5, .int 0), (6, .int r1)]) dX6_hangsTogether_27 (by decide) rfl ?_
      exact EvI.tr hB hE1

set_option maxRecDepth 20000 in
set_option maxHeartbeats 2000000 in
theorem kX6_hangsTogether_29 {K : KT} {G : St} {Q : Int32 → St → Prop} {x1 : Int32} {x2 : Int32} {x3 : Int32} {x4 : Int32} {x5 : Int32} {x6 : Int32} (hL : Lay G.2.2) 
    (hB : ((x6 ≤ 0 → EvI K mX6_hangsTogether 1 10 [(0, .ref 18), (1, .int x1), (2, .int (x2 ||| ((x5 &&& x1) &&& (x2 ^^^ (-1))))), (3, .int ((x5 &&& x1) &&& (x2 ^^^ (-1)))), (4, .int (x4 + 1))] [] G Q) ∧ (¬ x6 ≤ 0 → EvI K mJ6_numberOfTrailingZeros_0f7a4 0 0 [(0, .int x3)] [] G (fun r1 G1 => vp_in r1 30 ∧ EvI K mX6_hangsTogether 1 29 [(0, .ref 18), (1, .int x1), (2, .int x2), (3, .int (x3 &&& (x3 - 1))), (4, .int x4), (5, .int (x5 ||| (sI G1 13 (Int32.toNatClampNeg r1)))), (6, .int (x6 + (-1)))] [] G1 Q)))) :
    EvI K mX6_hangsTogether 1 29 [(0, .ref 18), (1, .int x1), (2, .int x2), (3, .int x3), (4, .int x4), (5, .int x5), (6, .int x6)] [] G Q := by
  refine E_iload 6 dX6_hangsTogether_29 rfl ?_
  refine E_if_le (tgt := 63) dX6_hangsTogether_31 (by decide) (fun c => ?_) (fun c => ?_)
  · have hB := hB.1 c
    refine E_iload 5 dX6_hangsTogether_63 rfl ?_
    refine E_iload_n 1 dX6_hangsTogether_65 rfl rfl ?_
    refine E_iand dX6_hangsTogether_66 ?_
    refine E_iload_n 2 dX6_hangsTogether_67 rfl rfl ?_
    refine E_iconst (v := (-1)) dX6_hangsTogether_68 (by decide) ?_
    refine E_ixor dX6_hangsTogether_69 ?_
    refine E_iand dX6_hangsTogether_70 ?_
    refine E_istore_n (lv' := [(0, .ref 18), (1, .int x1), (2, .int x2), (3, .int ((x5 &&& x1) &&& (x2 ^^^ (-1)))), (4, .int x4), (5, .int x5), (6, .int x6)]) dX6_hangsTogether_71 rfl (by decide) rfl ?_
    refine E_iload_n 2 dX6_hangsTogether_72 rfl rfl ?_
    refine E_iload_n 3 dX6_hangsTogether_73 rfl rfl ?_
    refine E_ior dX6_hangsTogether_74 ?_
    refine E_istore_n (lv' := [(0, .ref 18), (1, .int x1), (2, .int (x2 ||| ((x5 &&& x1) &&& (x2 ^^^ (-1))))), (3, .int ((x5 &&& x1) &&& (x2 ^^^ (-1)))), (4, .int x4), (5, .int x5), (6, .int x6)]) dX6_hangsTogether_75 rfl (by decide) rfl ?_
    refine E_iinc (v := x4 + 1) (lv' := [(0, .ref 18), (1, .int x1), (2, .int (x2 ||| ((x5 &&& x1) &&& (x2 ^^^ (-1))))), (3, .int ((x5 &&& x1) &&& (x2 ^^^ (-1)))), (4, .int (x4 + 1)), (5, .int x5), (6, .int x6)]) 4 dX6_hangsTogether_76 rfl rfl (by decide) rfl ?_
    refine E_goto (tgt := 10) dX6_hangsTogether_79 (by decide) ?_
    refine E_sub (lv' := [(0, .ref 18), (1, .int x1), (2, .int (x2 ||| ((x5 &&& x1) &&& (x2 ^^^ (-1))))), (3, .int ((x5 &&& x1) &&& (x2 ^^^ (-1)))), (4, .int (x4 + 1))]) [0, 1, 2, 3, 4] rfl ?_
    exact EvI.tr hB rfl
  · have hB := hB.2 c
    refine E_iload 5 dX6_hangsTogether_34 rfl ?_
    refine E_aload_n 0 dX6_hangsTogether_36 rfl rfl rfl ?_
    refine E_gR (j := 11) fG_X6_42 rfl (lo_18 hL) (lr_18_0 hL) (by decide) dX6_hangsTogether_37 ?_
    refine E_gR (j := 13) fG_X6_92 rfl (lo_11 hL) (lr_11_1 hL) (by decide) dX6_hangsTogether_40 ?_
    refine E_iload_n 3 dX6_hangsTogether_43 rfl rfl ?_
    refine E_callS (as := [.int x3]) (st := [.ref 13, .int x5]) cm_J6_numberOfTrailingZeros_0f7a4 cS_X6_97 rfl rfl (by decide) (Nat.le_of_ble_eq_true rfl) (Nat.le_of_ble_eq_true rfl) dX6_hangsTogether_44 hB (fun r G1 hr => ?_)
    obtain ⟨r1, rfl, hE1, hB⟩ := hr
    have hL1 : Lay G1.2.2 := by rw [hE1]; exact hL
    have hE1 : G1.2.2 = G.2.2 := hE1
    show Ev K mX6_hangsTogether 1 47 [(0, .ref 18), (1, .int x1), (2, .int x2), (3, .int x3), (4, .int x4), (5, .int x5), (6, .int x6)] [.int r1, .ref 13, .int x5] G1 _
    obtain ⟨qq2, hB⟩ := hB
    refine E_aI (p := Int32.toNatClampNeg r1) (v := sI G1 13 (Int32.toNatClampNeg r1)) (la_13 hL1) qq2 rfl rfl dX6_hangsTogether_47 ?_
    refine E_ior dX6_hangsTogether_48 ?_
    refine E_istore (lv' := [(0, .ref 18), (1, .int x1), (2, .int x2), (3, .int x3), (4, .int x4), (5, .int (x5 ||| (sI G1 13 (Int32.toNatClampNeg r1)))), (6, .int x6)]) dX6_hangsTogether_49 (by decide) rfl ?_
    refine E_iload_n 3 dX6_hangsTogether_51 rfl rfl ?_
    refine E_iload_n 3 dX6_hangsTogether_52 rfl rfl ?_
    refine E_iconst (v := 1) dX6_hangsTogether_53 (by decide) ?_
    refine E_isub dX6_hangsTogether_54 ?_
    refine E_iand dX6_hangsTogether_55 ?_
    refine E_istore_n (lv' := [(0, .ref 18), (1, .int x1), (2, .int x2), (3, .int (x3 &&& (x3 - 1))), (4, .int x4), (5, .int (x5 ||| (sI G1 13 (Int32.toNatClampNeg r1)))), (6, .int x6)]) dX6_hangsTogether_56 rfl (by decide) rfl ?_
    refine E_iinc (v := x6 + (-1)) (lv' := [(0, .ref 18), (1, .int x1), (2, .int x2), (3, .int (x3 &&& (x3 - 1))), (4, .int x4), (5, .int (x5 ||| (sI G1 13 (Int32.toNatClampNeg r1)))), (6, .int (x6 + (-1)))]) 6 dX6_hangsTogether_57 rfl rfl (by decide) rfl ?_
    refine E_goto (tgt := 29) dX6_hangsTogether_60 (by decide) ?_
    exact EvI.tr hB hE1

set_option maxRecDepth 20000 in
set_option maxHeartbeats 2000000 in
theorem kX6_hangsTogether_82 {K : KT} {G : St} {Q : Int32 → St → Prop} {x1 : Int32} {x2 : Int32} (hL : Lay G.2.2) 
    (hB : ((¬ x2 = x1 → Q 0 G) ∧ (x2 = x1 → Q 1 G))) :
    EvI K mX6_hangsTogether 1 82 [(1, .int x1), (2, .int x2)] [] G Q := by
  refine E_iload_n 1 dX6_hangsTogether_82 rfl rfl ?_
  refine E_iload_n 0 dX6_hangsTogether_83 rfl rfl ?_
  refine E_icmp_ne (tgt := 91) dX6_hangsTogether_84 (by decide) (fun c => ?_) (fun c => ?_)
  · have hB := hB.1 c
    refine E_iconst (v := 0) dX6_hangsTogether_91 (by decide) ?_
    exact E_zret rfl (Or.inl rfl) dX6_hangsTogether_92 ⟨_, rfl, rfl, hB⟩
  · have hB := hB.2 c
    refine E_iconst (v := 1) dX6_hangsTogether_87 (by decide) ?_
    refine E_goto (tgt := 92) dX6_hangsTogether_88 (by decide) ?_
    exact E_zret rfl (Or.inr rfl) dX6_hangsTogether_92 ⟨_, rfl, rfl, hB⟩

set_option maxRecDepth 20000 in
set_option maxHeartbeats 2000000 in
theorem kX6_isLeast_0 {K : KT} {G : St} {Q : Int32 → St → Prop} {x1 : Int32} (hL : Lay G.2.2) 
    (hB : EvI K mJ6_bitCount_0f7a4 0 0 [(0, .int x1)] [] G (fun r1 G1 => EvI K mX6_isLeast 2 7 [(0, .ref 18), (1, .int x1), (2, .int x1), (3, .int r1)] [] G1 Q)) :
    EvI K mX6_isLeast 2 0 [(0, .ref 18), (1, .int x1)] [] G Q := by
  refine E_iload_n 1 dX6_isLeast_0 rfl rfl ?_
  refine E_istore_n (lv' := [(0, .ref 18), (1, .int x1), (2, .int x1)]) dX6_isLeast_1 rfl (by decide) rfl ?_
  refine E_iload_n 1 dX6_isLeast_2 rfl rfl ?_
  refine E_callS (as := [.int x1]) (st := []) cm_J6_bitCount_0f7a4 cS_X6_86 rfl rfl (by decide) (Nat.le_of_ble_eq_true rfl) (Nat.le_of_ble_eq_true rfl) dX6_isLeast_3 hB (fun r G1 hr => ?_)
  obtain ⟨r1, rfl, hE1, hB⟩ := hr
  have hL1 : Lay G1.2.2 := by rw [hE1]; exact hL
  have hE1 : G1.2.2 = G.2.2 := hE1
  show Ev K mX6_isLeast 2 6 [(0, .ref 18), (1, .int x1), (2, .int x1)] [.int r1] G1 _
  refine E_istore_n (lv' := [(0, .ref 18), (1, .int x1), (2, .int x1), (3, .int r1)]) dX6_isLeast_6 rfl (by decide) rfl ?_
  exact EvI.tr hB hE1

set_option maxRecDepth 20000 in
set_option maxHeartbeats 2000000 in
theorem kX6_isLeast_7 {K : KT} {G : St} {Q : Int32 → St → Prop} {x1 : Int32} {x2 : Int32} {x3 : Int32} (hL : Lay G.2.2) 
    (hB : ((x3 ≤ 0 → Q 1 G) ∧ (¬ x3 ≤ 0 → EvI K mX6_holdsAll 0 0 [(0, .ref 18), (1, .int (x1 &&& ((x2 &&& (-x2)) ^^^ (-1))))] [] G (fun r1 G1 => ((r1 = 0 → EvI K mX6_isLeast 2 47 [(0, .ref 18), (1, .int x1), (2, .int (x2 &&& (x2 - 1))), (3, .int x3)] [] G1 Q) ∧ (¬ r1 = 0 → EvI K mX6_hangsTogether 1 0 [(0, .ref 18), (1, .int (x1 &&& ((x2 &&& (-x2)) ^^^ (-1))))] [] G1 (fun r2 G2 => ((r2 = 0 → EvI K mX6_isLeast 2 47 [(0, .ref 18), (1, .int x1), (2, .int (x2 &&& (x2 - 1))), (3, .int x3)] [] G2 Q) ∧ (¬ r2 = 0 → Q 0 G2))))))))) :
    EvI K mX6_isLeast 2 7 [(0, .ref 18), (1, .int x1), (2, .int x2), (3, .int x3)] [] G Q := by
  refine E_iload_n 3 dX6_isLeast_7 rfl rfl ?_
  refine E_if_le (tgt := 53) dX6_isLeast_8 (by decide) (fun c => ?_) (fun c => ?_)
  · have hB := hB.1 c
    refine E_iconst (v := 1) dX6_isLeast_53 (by decide) ?_
    exact E_zret rfl (Or.inr rfl) dX6_isLeast_54 ⟨_, rfl, rfl, hB⟩
  · have hB := hB.2 c
    refine E_iload_n 1 dX6_isLeast_11 rfl rfl ?_
    refine E_iload_n 2 dX6_isLeast_12 rfl rfl ?_
    refine E_iload_n 2 dX6_isLeast_13 rfl rfl ?_
    refine E_ineg dX6_isLeast_14 ?_
    refine E_iand dX6_isLeast_15 ?_
    refine E_iconst (v := (-1)) dX6_isLeast_16 (by decide) ?_
    refine E_ixor dX6_isLeast_17 ?_
    refine E_iand dX6_isLeast_18 ?_
    refine E_istore (lv' := [(0, .ref 18), (1, .int x1), (2, .int x2), (3, .int x3), (4, .int (x1 &&& ((x2 &&& (-x2)) ^^^ (-1))))]) dX6_isLeast_19 (by decide) rfl ?_
    refine E_iload_n 2 dX6_isLeast_21 rfl rfl ?_
    refine E_iload_n 2 dX6_isLeast_22 rfl rfl ?_
    refine E_iconst (v := 1) dX6_isLeast_23 (by decide) ?_
    refine E_isub dX6_isLeast_24 ?_
    refine E_iand dX6_isLeast_25 ?_
    refine E_istore_n (lv' := [(0, .ref 18), (1, .int x1), (2, .int (x2 &&& (x2 - 1))), (3, .int x3), (4, .int (x1 &&& ((x2 &&& (-x2)) ^^^ (-1))))]) dX6_isLeast_26 rfl (by decide) rfl ?_
    refine E_aload_n 0 dX6_isLeast_27 rfl rfl rfl ?_
    refine E_iload 4 dX6_isLeast_28 rfl ?_
    refine E_cV (ci := 6) (as := [.int (x1 &&& ((x2 &&& (-x2)) ^^^ (-1)))]) (st := []) cm_X6_holdsAll cV_X6_119 ⟨_, _, rfl⟩ (by decide) (lo_18 hL) rfl rfl (by decide) (Nat.le_of_ble_eq_true rfl) (Nat.le_of_ble_eq_true rfl) dX6_isLeast_30 hB (fun r G1 hr => ?_)
    obtain ⟨r1, rfl, hE1, hB⟩ := hr
    have hL1 : Lay G1.2.2 := by rw [hE1]; exact hL
    have hE1 : G1.2.2 = G.2.2 := hE1
    show Ev K mX6_isLeast 2 33 [(0, .ref 18), (1, .int x1), (2, .int (x2 &&& (x2 - 1))), (3, .int x3), (4, .int (x1 &&& ((x2 &&& (-x2)) ^^^ (-1))))] [.int r1] G1 _
    refine E_if_eq (tgt := 47) dX6_isLeast_33 (by decide) (fun c => ?_) (fun c => ?_)
    · have hB := hB.1 c
      refine E_sub (lv' := [(0, .ref 18), (1, .int x1), (2, .int (x2 &&& (x2 - 1))), (3, .int x3)]) [0, 1, 2, 3] rfl ?_
      exact EvI.tr hB hE1
    · have hB := hB.2 c
      refine E_aload_n 0 dX6_isLeast_36 rfl rfl rfl ?_
      refine E_iload 4 dX6_isLeast_37 rfl ?_
      refine E_cV (ci := 6) (as := [.int (x1 &&& ((x2 &&& (-x2)) ^^^ (-1)))]) (st := []) cm_X6_hangsTogether cV_X6_122 ⟨_, _, rfl⟩ (by decide) (lo_18 hL1) rfl rfl (by decide) (Nat.le_of_ble_eq_true rfl) (Nat.le_of_ble_eq_true rfl) dX6_isLeast_39 hB (fun r G2 hr => ?_)
      obtain ⟨r2, rfl, hE2, hB⟩ := hr
      have hL2 : Lay G2.2.2 := by rw [hE2]; exact hL1
      have hE2 : G2.2.2 = G.2.2 := hE2.trans hE1
      show Ev K mX6_isLeast 2 42 [(0, .ref 18), (1, .int x1), (2, .int (x2 &&& (x2 - 1))), (3, .int x3), (4, .int (x1 &&& ((x2 &&& (-x2)) ^^^ (-1))))] [.int r2] G2 _
      refine E_if_eq (tgt := 47) dX6_isLeast_42 (by decide) (fun c => ?_) (fun c => ?_)
      · have hB := hB.1 c
        refine E_sub (lv' := [(0, .ref 18), (1, .int x1), (2, .int (x2 &&& (x2 - 1))), (3, .int x3)]) [0, 1, 2, 3] rfl ?_
        exact EvI.tr hB hE2
      · have hB := hB.2 c
        refine E_iconst (v := 0) dX6_isLeast_45 (by decide) ?_
        exact E_zret rfl (Or.inl rfl) dX6_isLeast_46 ⟨_, rfl, hE2, hB⟩

set_option maxRecDepth 20000 in
set_option maxHeartbeats 2000000 in
theorem kX6_isLeast_47 {K : KT} {G : St} {Q : Int32 → St → Prop} {x1 : Int32} {x2 : Int32} {x3 : Int32} (hL : Lay G.2.2) 
    (hB : EvI K mX6_isLeast 2 7 [(0, .ref 18), (1, .int x1), (2, .int x2), (3, .int (x3 + (-1)))] [] G Q) :
    EvI K mX6_isLeast 2 47 [(0, .ref 18), (1, .int x1), (2, .int x2), (3, .int x3)] [] G Q := by
  refine E_iinc (v := x3 + (-1)) (lv' := [(0, .ref 18), (1, .int x1), (2, .int x2), (3, .int (x3 + (-1)))]) 3 dX6_isLeast_47 rfl rfl (by decide) rfl ?_
  refine E_goto (tgt := 7) dX6_isLeast_50 (by decide) ?_
  exact EvI.tr hB rfl

set_option maxRecDepth 20000 in
set_option maxHeartbeats 2000000 in
theorem kX6_keepFound_0 {K : KT} {G : St} {Q : St → Prop} {x1 : Int32} (hL : Lay G.2.2) 
    (hB : (((sI G 18 17) < (nI (sN G (sR G 18 9))) → EvVa K mX6_keepFound 2 29 [(0, .ref 18), (1, .int x1)] [] G Q) ∧ (¬ (sI G 18 17) < (nI (sN G (sR G 18 9))) → EvAa K mJ7_copyOf_c38d5 1 0 [(0, .ref (sR G 18 9)), (1, .int (2 * (sI G 18 17)))] [] G (fun r1 G1 => Lay G1.2.2 ∧ 0 < r1 ∧ EvVa K mX6_keepFound 2 29 [(0, .ref 18), (1, .int x1)] [] (uR G1 18 9 r1) Q)))) :
    EvVa K mX6_keepFound 2 0 [(0, .ref 18), (1, .int x1)] [] G Q := by
  refine E_aload_n 0 dX6_keepFound_0 rfl rfl rfl ?_
  refine E_gI (v := sI G 18 17) fG_X6_60 rfl (lo_18 hL) rfl dX6_keepFound_1 ?_
  refine E_aload_n 0 dX6_keepFound_4 rfl rfl rfl ?_
  refine E_gR (j := sR G 18 9) fG_X6_35 rfl (lo_18 hL) rfl (lg_18_9 hL).2.1 dX6_keepFound_5 ?_
  refine E_len (v := nI (sN G (sR G 18 9))) (lg_18_9 hL) (by decide) rfl dX6_keepFound_8 ?_
  refine E_icmp_lt (tgt := 29) dX6_keepFound_9 (by decide) (fun c => ?_) (fun c => ?_)
  · have hB := hB.1 c
    exact hB
  · have hB := hB.2 c
    refine E_aload_n 0 dX6_keepFound_12 rfl rfl rfl ?_
    refine E_aload_n 0 dX6_keepFound_13 rfl rfl rfl ?_
    refine E_gR (j := sR G 18 9) fG_X6_35 rfl (lo_18 hL) rfl (lg_18_9 hL).2.1 dX6_keepFound_14 ?_
    refine E_iconst (v := 2) dX6_keepFound_17 (by decide) ?_
    refine E_aload_n 0 dX6_keepFound_18 rfl rfl rfl ?_
    refine E_gI (v := sI G 18 17) fG_X6_60 rfl (lo_18 hL) rfl dX6_keepFound_19 ?_
    refine E_imul dX6_keepFound_22 ?_
    refine E_callS (as := [.ref (sR G 18 9), .int (2 * (sI G 18 17))]) (st := [.ref 18]) cm_J7_copyOf_c38d5 cS_X6_128 rfl rfl (by decide) (Nat.le_of_ble_eq_true rfl) (Nat.le_of_ble_eq_true rfl) dX6_keepFound_23 hB (fun r G1 hr => ?_)
    obtain ⟨r1, rfl, hL1, hB⟩ := hr
    show Ev K mX6_keepFound 2 26 [(0, .ref 18), (1, .int x1)] [.ref r1, .ref 18] G1 _
    obtain ⟨qq2, hB⟩ := hB
    refine E_pR fP_X6_35 rfl (lo_18 hL1) (qq2) dX6_keepFound_26 ?_
    exact hB

set_option maxRecDepth 20000 in
set_option maxHeartbeats 2000000 in
theorem kX6_keepFound_29 {K : KT} {G : St} {Q : St → Prop} {x1 : Int32} (hL : Lay G.2.2) 
    (hB : vp_in (sI G 18 17) (sN G (sR G 18 9)) ∧ ∀ G2 : St, G2 = (uL (uI G 18 17 ((sI G 18 17) + 1)) (sR G 18 9) (Int32.toNatClampNeg (sI G 18 17)) (((Int32.toInt64 (sI G 18 16)) <<< (Int32.toInt64 30 &&& 63)) ||| (Int32.toInt64 x1))) → Q G2) :
    EvVa K mX6_keepFound 2 29 [(0, .ref 18), (1, .int x1)] [] G Q := by
  refine E_aload_n 0 dX6_keepFound_29 rfl rfl rfl ?_
  refine E_gR (j := sR G 18 9) fG_X6_35 rfl (lo_18 hL) rfl (lg_18_9 hL).2.1 dX6_keepFound_30 ?_
  refine E_aload_n 0 dX6_keepFound_33 rfl rfl rfl ?_
  refine E_dup dX6_keepFound_34 rfl ?_
  refine E_gI (v := sI G 18 17) fG_X6_60 rfl (lo_18 hL) rfl dX6_keepFound_35 ?_
  refine E_dup_x1 dX6_keepFound_38 rfl rfl ?_
  refine E_iconst (v := 1) dX6_keepFound_39 (by decide) ?_
  refine E_iadd dX6_keepFound_40 ?_
  refine E_pI fP_X6_60 rfl (lo_18 hL) dX6_keepFound_41 ?_
  refine E_aload_n 0 dX6_keepFound_44 rfl rfl rfl ?_
  refine E_gI (v := sI G 18 16) fG_X6_57 rfl (lo_18 hL) rfl dX6_keepFound_45 ?_
  refine E_i2l dX6_keepFound_48 rfl ?_
  refine E_bipush (v := 30) dX6_keepFound_49 (by decide) ?_
  refine E_lshl dX6_keepFound_51 rfl ?_
  refine E_iload_n 1 dX6_keepFound_52 rfl rfl ?_
  refine E_i2l dX6_keepFound_53 rfl ?_
  refine E_lor dX6_keepFound_54 ?_
  obtain ⟨qq1, hB⟩ := hB
  refine E_sL (p := Int32.toNatClampNeg (sI G 18 17)) (lg_18_9 hL) qq1 rfl dX6_keepFound_55 ?_
  refine E_nmG (fun G2 eG2 => ?_)
  have hB := hB G2 eG2
  have hL2 : Lay G2.2.2 := by rw [eG2]; exact hL
  exact E_vret rfl dX6_keepFound_56 ⟨rfl, hB⟩

set_option maxRecDepth 20000 in
set_option maxHeartbeats 2000000 in
theorem kX6_lookAtLast_0 {K : KT} {G : St} {Q : St → Prop} {x1 : Int32} {x2 : Int32} {x3 : Int32} {x4 : Int32} (hL : Lay G.2.2) 
    (hB : EvVa K mX6_lookAtLast 3 7 [(0, .ref 18), (1, .int x1), (2, .int x2), (3, .int x3), (5, .int x4), (6, .int 0)] [] G Q) :
    EvVa K mX6_lookAtLast 3 0 [(0, .ref 18), (1, .int x1), (2, .int x2), (3, .int x3), (4, .int x4)] [] G Q := by
  refine E_iload 4 dX6_lookAtLast_0 rfl ?_
  refine E_istore (lv' := [(0, .ref 18), (1, .int x1), (2, .int x2), (3, .int x3), (4, .int x4), (5, .int x4)]) dX6_lookAtLast_2 (by decide) rfl ?_
  refine E_iconst (v := 0) dX6_lookAtLast_4 (by decide) ?_
  refine E_istore (lv' := [(0, .ref 18), (1, .int x1), (2, .int x2), (3, .int x3), (4, .int x4), (5, .int x4), (6, .int 0)]) dX6_lookAtLast_5 (by decide) rfl ?_
  refine E_sub (lv' := [(0, .ref 18), (1, .int x1), (2, .int x2), (3, .int x3), (5, .int x4), (6, .int 0)]) [0, 1, 2, 3, 5, 6] rfl ?_
  exact hB

set_option maxRecDepth 20000 in
set_option maxHeartbeats 2000000 in
theorem kX6_lookAtLast_7 {K : KT} {G : St} {Q : St → Prop} {x1 : Int32} {x2 : Int32} {x3 : Int32} {x5 : Int32} {x6 : Int32} (hL : Lay G.2.2) 
    (hB : vp_in x1 6 ∧ (((sI G 20 (Int32.toNatClampNeg x1)) ≤ x6 → EvI K mJ6_bitCount_0f7a4 0 0 [(0, .int x5)] [] G (fun r2 G2 => EvVa K mX6_lookAtLast 3 47 [(0, .ref 18), (2, .int x2), (3, .int x3), (5, .int x5), (6, .int r2)] [] G2 Q)) ∧ (¬ (sI G 20 (Int32.toNatClampNeg x1)) ≤ x6 → vp_in ((x1 * 5) + x6) 30 ∧ EvVa K mX6_lookAtLast 3 7 [(0, .ref 18), (1, .int x1), (2, .int x2), (3, .int x3), (5, .int (x5 &&& (sI G 19 (Int32.toNatClampNeg ((x1 * 5) + x6))))), (6, .int (x6 + 1))] [] G Q))) :
    EvVa K mX6_lookAtLast 3 7 [(0, .ref 18), (1, .int x1), (2, .int x2), (3, .int x3), (5, .int x5), (6, .int x6)] [] G Q := by
  refine E_iload 5 dX6_lookAtLast_7 rfl ?_
  refine E_aload_n 0 dX6_lookAtLast_9 rfl rfl rfl ?_
  refine E_gR (j := 20) fG_X6_17 rfl (lo_18 hL) (lr_18_3 hL) (by decide) dX6_lookAtLast_10 ?_
  refine E_iload_n 1 dX6_lookAtLast_13 rfl rfl ?_
  obtain ⟨qq1, hB⟩ := hB
  refine E_aI (p := Int32.toNatClampNeg x1) (v := sI G 20 (Int32.toNatClampNeg x1)) (la_20 hL) qq1 rfl rfl dX6_lookAtLast_14 ?_
  refine E_icmp_ge (tgt := 40) dX6_lookAtLast_15 (by decide) (fun c => ?_) (fun c => ?_)
  · have hB := hB.1 c
    refine E_iload 4 dX6_lookAtLast_40 rfl ?_
    refine E_callS (as := [.int x5]) (st := []) cm_J6_bitCount_0f7a4 cS_X6_86 rfl rfl (by decide) (Nat.le_of_ble_eq_true rfl) (Nat.le_of_ble_eq_true rfl) dX6_lookAtLast_42 hB (fun r G2 hr => ?_)
    obtain ⟨r2, rfl, hE2, hB⟩ := hr
    have hL2 : Lay G2.2.2 := by rw [hE2]; exact hL
    show Ev K mX6_lookAtLast 3 45 [(0, .ref 18), (1, .int x1), (2, .int x2), (3, .int x3), (5, .int x5), (6, .int x6)] [.int r2] G2 _
    refine E_istore (lv' := [(0, .ref 18), (1, .int x1), (2, .int x2), (3, .int x3), (5, .int x5), (6, .int r2)]) dX6_lookAtLast_45 (by decide) rfl ?_
    refine E_sub (lv' := [(0, .ref 18), (2, .int x2), (3, .int x3), (5, .int x5), (6, .int r2)]) [0, 2, 3, 4, 5] rfl ?_
    exact hB
  · have hB := hB.2 c
    refine E_iload 4 dX6_lookAtLast_18 rfl ?_
    refine E_aload_n 0 dX6_lookAtLast_20 rfl rfl rfl ?_
    refine E_gR (j := 19) fG_X6_13 rfl (lo_18 hL) (lr_18_2 hL) (by decide) dX6_lookAtLast_21 ?_
    refine E_iload_n 1 dX6_lookAtLast_24 rfl rfl ?_
    refine E_iconst (v := 5) dX6_lookAtLast_25 (by decide) ?_
    refine E_imul dX6_lookAtLast_26 ?_
    refine E_iload 5 dX6_lookAtLast_27 rfl ?_
    refine E_iadd dX6_lookAtLast_29 ?_
    obtain ⟨qq3, hB⟩ := hB
    refine E_aI (p := Int32.toNatClampNeg ((x1 * 5) + x6)) (v := sI G 19 (Int32.toNatClampNeg ((x1 * 5) + x6))) (la_19 hL) qq3 rfl rfl dX6_lookAtLast_30 ?_
    refine E_iand dX6_lookAtLast_31 ?_
    refine E_istore (lv' := [(0, .ref 18), (1, .int x1), (2, .int x2), (3, .int x3), (5, .int (x5 &&& (sI G 19 (Int32.toNatClampNeg ((x1 * 5) + x6))))), (6, .int x6)]) dX6_lookAtLast_32 (by decide) rfl ?_
    refine E_iinc (v := x6 + 1) (lv' := [(0, .ref 18), (1, .int x1), (2, .int x2), (3, .int x3), (5, .int (x5 &&& (sI G 19 (Int32.toNatClampNeg ((x1 * 5) + x6))))), (6, .int (x6 + 1))]) 5 dX6_lookAtLast_34 rfl rfl (by decide) rfl ?_
    refine E_goto (tgt := 7) dX6_lookAtLast_37 (by decide) ?_
    exact hB

set_option maxRecDepth 20000 in
set_option maxHeartbeats 2000000 in
theorem kX6_lookAtLast_47 {K : KT} {G : St} {Q : St → Prop} {x2 : Int32} {x3 : Int32} {x5 : Int32} {x6 : Int32} (hL : Lay G.2.2) 
    (hB : ((x6 ≤ 0 → Q G) ∧ (¬ x6 ≤ 0 → EvI K mJ6_numberOfTrailingZeros_0f7a4 0 0 [(0, .int x5)] [] G (fun r1 G1 => vp_in r1 30 ∧ ((¬ (x3 ||| (sI G1 10 (Int32.toNatClampNeg r1))) = (sI G1 18 14) → EvVa K mX6_lookAtLast 3 137 [(0, .ref 18), (2, .int x2), (3, .int x3), (5, .int (x5 &&& (x5 - 1))), (6, .int x6)] [] (uI (uI G1 18 16 ((sI G1 18 16) + 1)) 18 15 ((sI G1 18 15) ||| (1 <<< ((x3 ||| (sI G1 10 (Int32.toNatClampNeg r1))) &&& 31)))) Q) ∧ ((x3 ||| (sI G1 10 (Int32.toNatClampNeg r1))) = (sI G1 18 14) → EvI K mX6_isLeast 2 0 [(0, .ref 18), (1, .int (x2 ||| (1 <<< (r1 &&& 31))))] [] (uI (uI G1 18 16 ((sI G1 18 16) + 1)) 18 15 ((sI G1 18 15) ||| (1 <<< ((x3 ||| (sI G1 10 (Int32.toNatClampNeg r1))) &&& 31)))) (fun r3 G3 => ((r3 = 0 → EvVa K mX6_lookAtLast 3 137 [(0, .ref 18), (2, .int x2), (3, .int x3), (5, .int (x5 &&& (x5 - 1))), (6, .int x6)] [] G3 Q) ∧ (¬ r3 = 0 → EvVa K mX6_keepFound 2 0 [(0, .ref 18), (1, .int (x2 ||| (1 <<< (r1 &&& 31))))] [] G3 (fun G4 => Lay G4.2.2 ∧ EvVa K mX6_lookAtLast 3 137 [(0, .ref 18), (2, .int x2), (3, .int x3), (5, .int (x5 &&& (x5 - 1))), (6, .int x6)] [] G4 Q)))))))))) :
    EvVa K mX6_lookAtLast 3 47 [(0, .ref 18), (2, .int x2), (3, .int x3), (5, .int x5), (6, .int x6)] [] G Q := by
  refine E_iload 4 dX6_lookAtLast_47 rfl ?_
  refine E_if_le (tgt := 143) dX6_lookAtLast_49 (by decide) (fun c => ?_) (fun c => ?_)
  · have hB := hB.1 c
    exact E_vret rfl dX6_lookAtLast_143 ⟨rfl, hB⟩
  · have hB := hB.2 c
    refine E_iload 3 dX6_lookAtLast_52 rfl ?_
    refine E_callS (as := [.int x5]) (st := []) cm_J6_numberOfTrailingZeros_0f7a4 cS_X6_97 rfl rfl (by decide) (Nat.le_of_ble_eq_true rfl) (Nat.le_of_ble_eq_true rfl) dX6_lookAtLast_54 hB (fun r G1 hr => ?_)
    obtain ⟨r1, rfl, hE1, hB⟩ := hr
    have hL1 : Lay G1.2.2 := by rw [hE1]; exact hL
    show Ev K mX6_lookAtLast 3 57 [(0, .ref 18), (2, .int x2), (3, .int x3), (5, .int x5), (6, .int x6)] [.int r1] G1 _
    refine E_istore (lv' := [(0, .ref 18), (2, .int x2), (3, .int x3), (5, .int x5), (6, .int x6), (7, .int r1)]) dX6_lookAtLast_57 (by decide) rfl ?_
    refine E_iload 3 dX6_lookAtLast_59 rfl ?_
    refine E_iload 3 dX6_lookAtLast_61 rfl ?_
    refine E_iconst (v := 1) dX6_lookAtLast_63 (by decide) ?_
    refine E_isub dX6_lookAtLast_64 ?_
    refine E_iand dX6_lookAtLast_65 ?_
    refine E_istore (lv' := [(0, .ref 18), (2, .int x2), (3, .int x3), (5, .int (x5 &&& (x5 - 1))), (6, .int x6), (7, .int r1)]) dX6_lookAtLast_66 (by decide) rfl ?_
    refine E_iload_n 2 dX6_lookAtLast_68 rfl rfl ?_
    refine E_aload_n 0 dX6_lookAtLast_69 rfl rfl rfl ?_
    refine E_gR (j := 5) fG_X6_46 rfl (lo_18 hL1) (lr_18_1 hL1) (by decide) dX6_lookAtLast_70 ?_
    refine E_gR (j := 10) fG_X6_107 rfl (lo_5 hL1) (lr_5_5 hL1) (by decide) dX6_lookAtLast_73 ?_
    refine E_iload 5 dX6_lookAtLast_76 rfl ?_
    obtain ⟨qq2, hB⟩ := hB
    refine E_aI (p := Int32.toNatClampNeg r1) (v := sI G1 10 (Int32.toNatClampNeg r1)) (la_10 hL1) qq2 rfl rfl dX6_lookAtLast_78 ?_
    refine E_ior dX6_lookAtLast_79 ?_
    refine E_istore (lv' := [(0, .ref 18), (2, .int x2), (3, .int x3), (5, .int (x5 &&& (x5 - 1))), (6, .int x6), (7, .int r1), (8, .int (x3 ||| (sI G1 10 (Int32.toNatClampNeg r1))))]) dX6_lookAtLast_80 (by decide) rfl ?_
    refine E_aload_n 0 dX6_lookAtLast_82 rfl rfl rfl ?_
    refine E_dup dX6_lookAtLast_83 rfl ?_
    refine E_gI (v := sI G1 18 16) fG_X6_57 rfl (lo_18 hL1) rfl dX6_lookAtLast_84 ?_
    refine E_iconst (v := 1) dX6_lookAtLast_87 (by decide) ?_
    refine E_iadd dX6_lookAtLast_88 ?_
    refine E_pI fP_X6_57 rfl (lo_18 hL1) dX6_lookAtLast_89 ?_
    refine E_aload_n 0 dX6_lookAtLast_92 rfl rfl rfl ?_
    refine E_dup dX6_lookAtLast_93 rfl ?_
    refine E_gI (v := sI G1 18 15) fG_X6_66 rfl (lo_18 hL1) rfl dX6_lookAtLast_94 ?_
    refine E_iconst (v := 1) dX6_lookAtLast_97 (by decide) ?_
    refine E_iload 6 dX6_lookAtLast_98 rfl ?_
    refine E_ishl dX6_lookAtLast_100 ?_
    refine E_ior dX6_lookAtLast_101 ?_
    refine E_pI fP_X6_66 rfl (lo_18 hL1) dX6_lookAtLast_102 ?_
    refine E_iload 6 dX6_lookAtLast_105 rfl ?_
    refine E_aload_n 0 dX6_lookAtLast_107 rfl rfl rfl ?_
    refine E_gI (v := sI G1 18 14) fG_X6_54 rfl (lo_18 hL1) rfl dX6_lookAtLast_108 ?_
    refine E_icmp_ne (tgt := 137) dX6_lookAtLast_111 (by decide) (fun c => ?_) (fun c => ?_)
    · have hB := hB.1 c
      refine E_sub (lv' := [(0, .ref 18), (2, .int x2), (3, .int x3), (5, .int (x5 &&& (x5 - 1))), (6, .int x6)]) [0, 1, 2, 3, 4] rfl ?_
      exact hB
    · have hB := hB.2 c
      refine E_aload_n 0 dX6_lookAtLast_114 rfl rfl rfl ?_
      refine E_iload_n 1 dX6_lookAtLast_115 rfl rfl ?_
      refine E_iconst (v := 1) dX6_lookAtLast_116 (by decide) ?_
      refine E_iload 5 dX6_lookAtLast_117 rfl ?_
      refine E_ishl dX6_lookAtLast_119 ?_
      refine E_ior dX6_lookAtLast_120 ?_
      refine E_cV (ci := 6) (as := [.int (x2 ||| (1 <<< (r1 &&& 31)))]) (st := []) cm_X6_isLeast cV_X6_112 ⟨_, _, rfl⟩ (by decide) (lo_18 hL1) rfl rfl (by decide) (Nat.le_of_ble_eq_true rfl) (Nat.le_of_ble_eq_true rfl) dX6_lookAtLast_121 hB (fun r G3 hr => ?_)
      obtain ⟨r3, rfl, hE3, hB⟩ := hr
      have hL3 : Lay G3.2.2 := by rw [hE3]; exact hL1
      show Ev K mX6_lookAtLast 3 124 [(0, .ref 18), (2, .int x2), (3, .int x3), (5, .int (x5 &&& (x5 - 1))), (6, .int x6), (7, .int r1), (8, .int (x3 ||| (sI G1 10 (Int32.toNatClampNeg r1))))] [.int r3] G3 _
      refine E_if_eq (tgt := 137) dX6_lookAtLast_124 (by decide) (fun c => ?_) (fun c => ?_)
      · have hB := hB.1 c
        refine E_sub (lv' := [(0, .ref 18), (2, .int x2), (3, .int x3), (5, .int (x5 &&& (x5 - 1))), (6, .int x6)]) [0, 1, 2, 3, 4] rfl ?_
        exact hB
      · have hB := hB.2 c
        refine E_aload_n 0 dX6_lookAtLast_127 rfl rfl rfl ?_
        refine E_iload_n 1 dX6_lookAtLast_128 rfl rfl ?_
        refine E_iconst (v := 1) dX6_lookAtLast_129 (by decide) ?_
        refine E_iload 5 dX6_lookAtLast_130 rfl ?_
        refine E_ishl dX6_lookAtLast_132 ?_
        refine E_ior dX6_lookAtLast_133 ?_
        refine E_cV (ci := 6) (as := [.int (x2 ||| (1 <<< (r1 &&& 31)))]) (st := []) cm_X6_keepFound cV_X6_116 ⟨_, _, rfl⟩ (by decide) (lo_18 hL3) rfl rfl (by decide) (Nat.le_of_ble_eq_true rfl) (Nat.le_of_ble_eq_true rfl) dX6_lookAtLast_134 hB (fun r G4 hr => ?_)
        obtain ⟨rfl, hL4, hB⟩ := hr
        show Ev K mX6_lookAtLast 3 137 [(0, .ref 18), (2, .int x2), (3, .int x3), (5, .int (x5 &&& (x5 - 1))), (6, .int x6), (7, .int r1), (8, .int (x3 ||| (sI G1 10 (Int32.toNatClampNeg r1))))] [] G4 _
        refine E_sub (lv' := [(0, .ref 18), (2, .int x2), (3, .int x3), (5, .int (x5 &&& (x5 - 1))), (6, .int x6)]) [0, 1, 2, 3, 4] rfl ?_
        exact hB

set_option maxRecDepth 20000 in
set_option maxHeartbeats 2000000 in
theorem kX6_lookAtLast_137 {K : KT} {G : St} {Q : St → Prop} {x2 : Int32} {x3 : Int32} {x5 : Int32} {x6 : Int32} (hL : Lay G.2.2) 
    (hB : EvVa K mX6_lookAtLast 3 47 [(0, .ref 18), (2, .int x2), (3, .int x3), (5, .int x5), (6, .int (x6 + (-1)))] [] G Q) :
    EvVa K mX6_lookAtLast 3 137 [(0, .ref 18), (2, .int x2), (3, .int x3), (5, .int x5), (6, .int x6)] [] G Q := by
  refine E_iinc (v := x6 + (-1)) (lv' := [(0, .ref 18), (2, .int x2), (3, .int x3), (5, .int x5), (6, .int (x6 + (-1)))]) 4 dX6_lookAtLast_137 rfl rfl (by decide) rfl ?_
  refine E_goto (tgt := 47) dX6_lookAtLast_140 (by decide) ?_
  exact hB

set_option maxRecDepth 20000 in
set_option maxHeartbeats 2000000 in
theorem kX6_addToGroups_0 {K : KT} {G : St} {Q : Int32 → St → Prop} {x1 : Int32} {x2 : Int32} {x3 : Int32} (hL : Lay G.2.2) 
    (hB : vp_in x2 30 ∧ EvI K mX6_addToGroups 0 28 [(0, .ref 18), (1, .int x1), (2, .int x2), (3, .int x3), (4, .int (x1 * 5)), (5, .int ((x1 * 5) + 5)), (6, .int (sI G 13 (Int32.toNatClampNeg x2))), (7, .int 0), (8, .int 0)] [] G Q) :
    EvI K mX6_addToGroups 0 0 [(0, .ref 18), (1, .int x1), (2, .int x2), (3, .int x3)] [] G Q := by
  refine E_iload_n 1 dX6_addToGroups_0 rfl rfl ?_
  refine E_iconst (v := 5) dX6_addToGroups_1 (by decide) ?_
  refine E_imul dX6_addToGroups_2 ?_
  refine E_istore (lv' := [(0, .ref 18), (1, .int x1), (2, .int x2), (3, .int x3), (4, .int (x1 * 5))]) dX6_addToGroups_3 (by decide) rfl ?_
  refine E_iload 4 dX6_addToGroups_5 rfl ?_
  refine E_iconst (v := 5) dX6_addToGroups_7 (by decide) ?_
  refine E_iadd dX6_addToGroups_8 ?_
  refine E_istore (lv' := [(0, .ref 18), (1, .int x1), (2, .int x2), (3, .int x3), (4, .int (x1 * 5)), (5, .int ((x1 * 5) + 5))]) dX6_addToGroups_9 (by decide) rfl ?_
  refine E_aload_n 0 dX6_addToGroups_11 rfl rfl rfl ?_
  refine E_gR (j := 11) fG_X6_42 rfl (lo_18 hL) (lr_18_0 hL) (by decide) dX6_addToGroups_12 ?_
  refine E_gR (j := 13) fG_X6_92 rfl (lo_11 hL) (lr_11_1 hL) (by decide) dX6_addToGroups_15 ?_
  refine E_iload_n 2 dX6_addToGroups_18 rfl rfl ?_
  obtain ⟨qq1, hB⟩ := hB
  refine E_aI (p := Int32.toNatClampNeg x2) (v := sI G 13 (Int32.toNatClampNeg x2)) (la_13 hL) qq1 rfl rfl dX6_addToGroups_19 ?_
  refine E_istore (lv' := [(0, .ref 18), (1, .int x1), (2, .int x2), (3, .int x3), (4, .int (x1 * 5)), (5, .int ((x1 * 5) + 5)), (6, .int (sI G 13 (Int32.toNatClampNeg x2)))]) dX6_addToGroups_20 (by decide) rfl ?_
  refine E_iconst (v := 0) dX6_addToGroups_22 (by decide) ?_
  refine E_istore (lv' := [(0, .ref 18), (1, .int x1), (2, .int x2), (3, .int x3), (4, .int (x1 * 5)), (5, .int ((x1 * 5) + 5)), (6, .int (sI G 13 (Int32.toNatClampNeg x2))), (7, .int 0)]) dX6_addToGroups_23 (by decide) rfl ?_
  refine E_iconst (v := 0) dX6_addToGroups_25 (by decide) ?_
  refine E_istore (lv' := [(0, .ref 18), (1, .int x1), (2, .int x2), (3, .int x3), (4, .int (x1 * 5)), (5, .int ((x1 * 5) + 5)), (6, .int (sI G 13 (Int32.toNatClampNeg x2))), (7, .int 0), (8, .int 0)]) dX6_addToGroups_26 (by decide) rfl ?_
  exact EvI.tr hB rfl

set_option maxRecDepth 20000 in
set_option maxHeartbeats 2000000 in
theorem kX6_addToGroups_28 {K : KT} {G : St} {Q : Int32 → St → Prop} {x1 : Int32} {x2 : Int32} {x3 : Int32} {x4 : Int32} {x5 : Int32} {x6 : Int32} {x7 : Int32} {x8 : Int32} (hL : Lay G.2.2) 
    (hB : vp_in x1 6 ∧ (((sI G 20 (Int32.toNatClampNeg x1)) ≤ x8 → vp_in (x5 + x7) 30 ∧ vp_in (x1 + 1) 6 ∧ (((x6 &&& x3) = 0 → Q 0 (uI (uI G 19 (Int32.toNatClampNeg (x5 + x7)) x6) 20 (Int32.toNatClampNeg (x1 + 1)) (x7 + 1))) ∧ (¬ (x6 &&& x3) = 0 → Q 1 (uI (uI G 19 (Int32.toNatClampNeg (x5 + x7)) x6) 20 (Int32.toNatClampNeg (x1 + 1)) (x7 + 1))))) ∧ (¬ (sI G 20 (Int32.toNatClampNeg x1)) ≤ x8 → vp_in (x4 + x8) 30 ∧ (((((sI G 19 (Int32.toNatClampNeg (x4 + x8))) >>> (x2 &&& 31)) &&& 1) = 0 → ((¬ ((sI G 19 (Int32.toNatClampNeg (x4 + x8))) &&& x3) = 0 → vp_in (x5 + x7) 30 ∧ EvI K mX6_addToGroups 0 94 [(0, .ref 18), (1, .int x1), (2, .int x2), (3, .int x3), (4, .int x4), (5, .int x5), (6, .int x6), (7, .int (x7 + 1)), (8, .int x8)] [] (uI G 19 (Int32.toNatClampNeg (x5 + x7)) (sI G 19 (Int32.toNatClampNeg (x4 + x8)))) Q) ∧ (((sI G 19 (Int32.toNatClampNeg (x4 + x8))) &&& x3) = 0 → Q 0 G))) ∧ (¬ (((sI G 19 (Int32.toNatClampNeg (x4 + x8))) >>> (x2 &&& 31)) &&& 1) = 0 → EvI K mX6_addToGroups 0 94 [(0, .ref 18), (1, .int x1), (2, .int x2), (3, .int x3), (4, .int x4), (5, .int x5), (6, .int (x6 ||| (sI G 19 (Int32.toNatClampNeg (x4 + x8))))), (7, .int x7), (8, .int x8)] [] G Q))))) :
    EvI K mX6_addToGroups 0 28 [(0, .ref 18), (1, .int x1), (2, .int x2), (3, .int x3), (4, .int x4), (5, .int x5), (6, .int x6), (7, .int x7), (8, .int x8)] [] G Q := by
  refine E_iload 8 dX6_addToGroups_28 rfl ?_
  refine E_aload_n 0 dX6_addToGroups_30 rfl rfl rfl ?_
  refine E_gR (j := 20) fG_X6_17 rfl (lo_18 hL) (lr_18_3 hL) (by decide) dX6_addToGroups_31 ?_
  refine E_iload_n 1 dX6_addToGroups_34 rfl rfl ?_
  obtain ⟨qq1, hB⟩ := hB
  refine E_aI (p := Int32.toNatClampNeg x1) (v := sI G 20 (Int32.toNatClampNeg x1)) (la_20 hL) qq1 rfl rfl dX6_addToGroups_35 ?_
  refine E_icmp_ge (tgt := 100) dX6_addToGroups_36 (by decide) (fun c => ?_) (fun c => ?_)
  · have hB := hB.1 c
    refine E_aload_n 0 dX6_addToGroups_100 rfl rfl rfl ?_
    refine E_gR (j := 19) fG_X6_13 rfl (lo_18 hL) (lr_18_2 hL) (by decide) dX6_addToGroups_101 ?_
    refine E_iload 5 dX6_addToGroups_104 rfl ?_
    refine E_iload 7 dX6_addToGroups_106 rfl ?_
    refine E_iadd dX6_addToGroups_108 ?_
    refine E_iload 6 dX6_addToGroups_109 rfl ?_
    obtain ⟨qq2, hB⟩ := hB
    refine E_sI (p := Int32.toNatClampNeg (x5 + x7)) (la_19 hL) qq2 rfl dX6_addToGroups_111 ?_
    refine E_aload_n 0 dX6_addToGroups_112 rfl rfl rfl ?_
    refine E_gR (j := 20) fG_X6_17 rfl (lo_18 hL) (lr_18_3 hL) (by decide) dX6_addToGroups_113 ?_
    refine E_iload_n 1 dX6_addToGroups_116 rfl rfl ?_
    refine E_iconst (v := 1) dX6_addToGroups_117 (by decide) ?_
    refine E_iadd dX6_addToGroups_118 ?_
    refine E_iload 7 dX6_addToGroups_119 rfl ?_
    refine E_iconst (v := 1) dX6_addToGroups_121 (by decide) ?_
    refine E_iadd dX6_addToGroups_122 ?_
    obtain ⟨qq3, hB⟩ := hB
    refine E_sI (p := Int32.toNatClampNeg (x1 + 1)) (la_20 hL) qq3 rfl dX6_addToGroups_123 ?_
    refine E_iload 6 dX6_addToGroups_124 rfl ?_
    refine E_iload_n 3 dX6_addToGroups_126 rfl rfl ?_
    refine E_iand dX6_addToGroups_127 ?_
    refine E_if_eq (tgt := 135) dX6_addToGroups_128 (by decide) (fun c => ?_) (fun c => ?_)
    · have hB := hB.1 c
      refine E_iconst (v := 0) dX6_addToGroups_135 (by decide) ?_
      exact E_zret rfl (Or.inl rfl) dX6_addToGroups_136 ⟨_, rfl, rfl, hB⟩
    · have hB := hB.2 c
      refine E_iconst (v := 1) dX6_addToGroups_131 (by decide) ?_
      refine E_goto (tgt := 136) dX6_addToGroups_132 (by decide) ?_
      exact E_zret rfl (Or.inr rfl) dX6_addToGroups_136 ⟨_, rfl, rfl, hB⟩
  · have hB := hB.2 c
    refine E_aload_n 0 dX6_addToGroups_39 rfl rfl rfl ?_
    refine E_gR (j := 19) fG_X6_13 rfl (lo_18 hL) (lr_18_2 hL) (by decide) dX6_addToGroups_40 ?_
    refine E_iload 4 dX6_addToGroups_43 rfl ?_
    refine E_iload 8 dX6_addToGroups_45 rfl ?_
    refine E_iadd dX6_addToGroups_47 ?_
    obtain ⟨qq4, hB⟩ := hB
    refine E_aI (p := Int32.toNatClampNeg (x4 + x8)) (v := sI G 19 (Int32.toNatClampNeg (x4 + x8))) (la_19 hL) qq4 rfl rfl dX6_addToGroups_48 ?_
    refine E_istore (lv' := [(0, .ref 18), (1, .int x1), (2, .int x2), (3, .int x3), (4, .int x4), (5, .int x5), (6, .int x6), (7, .int x7), (8, .int x8), (9, .int (sI G 19 (Int32.toNatClampNeg (x4 + x8))))]) dX6_addToGroups_49 (by decide) rfl ?_
    refine E_iload 9 dX6_addToGroups_51 rfl ?_
    refine E_iload_n 2 dX6_addToGroups_53 rfl rfl ?_
    refine E_ishr dX6_addToGroups_54 ?_
    refine E_iconst (v := 1) dX6_addToGroups_55 (by decide) ?_
    refine E_iand dX6_addToGroups_56 ?_
    refine E_if_eq (tgt := 70) dX6_addToGroups_57 (by decide) (fun c => ?_) (fun c => ?_)
    · have hB := hB.1 c
      refine E_iload 9 dX6_addToGroups_70 rfl ?_
      refine E_iload_n 3 dX6_addToGroups_72 rfl rfl ?_
      refine E_iand dX6_addToGroups_73 ?_
      refine E_if_ne (tgt := 79) dX6_addToGroups_74 (by decide) (fun c => ?_) (fun c => ?_)
      · have hB := hB.1 c
        refine E_aload_n 0 dX6_addToGroups_79 rfl rfl rfl ?_
        refine E_gR (j := 19) fG_X6_13 rfl (lo_18 hL) (lr_18_2 hL) (by decide) dX6_addToGroups_80 ?_
        refine E_iload 5 dX6_addToGroups_83 rfl ?_
        refine E_iload 7 dX6_addToGroups_85 rfl ?_
        refine E_iinc (v := x7 + 1) (lv' := [(0, .ref 18), (1, .int x1), (2, .int x2), (3, .int x3), (4, .int x4), (5, .int x5), (6, .int x6), (7, .int (x7 + 1)), (8, .int x8), (9, .int (sI G 19 (Int32.toNatClampNeg (x4 + x8))))]) 7 dX6_addToGroups_87 rfl rfl (by decide) rfl ?_
        refine E_iadd dX6_addToGroups_90 ?_
        refine E_iload 9 dX6_addToGroups_91 rfl ?_
        obtain ⟨qq5, hB⟩ := hB
        refine E_sI (p := Int32.toNatClampNeg (x5 + x7)) (la_19 hL) qq5 rfl dX6_addToGroups_93 ?_
        refine E_sub (lv' := [(0, .ref 18), (1, .int x1), (2, .int x2), (3, .int x3), (4, .int x4), (5, .int x5), (6, .int x6), (7, .int (x7 + 1)), (8, .int x8)]) [0, 1, 2, 3, 4, 5, 6, 7, 8] rfl ?_
        exact EvI.tr hB rfl
      · have hB := hB.2 c
        refine E_iconst (v := 0) dX6_addToGroups_77 (by decide) ?_
        exact E_zret rfl (Or.inl rfl) dX6_addToGroups_78 ⟨_, rfl, rfl, hB⟩
    · have hB := hB.2 c
      refine E_iload 6 dX6_addToGroups_60 rfl ?_
      refine E_iload 9 dX6_addToGroups_62 rfl ?_
      refine E_ior dX6_addToGroups_64 ?_
      refine E_istore (lv' := [(0, .ref 18), (1, .int x1), (2, .int x2), (3, .int x3), (4, .int x4), (5, .int x5), (6, .int (x6 ||| (sI G 19 (Int32.toNatClampNeg (x4 + x8))))), (7, .int x7), (8, .int x8), (9, .int (sI G 19 (Int32.toNatClampNeg (x4 + x8))))]) dX6_addToGroups_65 (by decide) rfl ?_
      refine E_goto (tgt := 94) dX6_addToGroups_67 (by decide) ?_
      refine E_sub (lv' := [(0, .ref 18), (1, .int x1), (2, .int x2), (3, .int x3), (4, .int x4), (5, .int x5), (6, .int (x6 ||| (sI G 19 (Int32.toNatClampNeg (x4 + x8))))), (7, .int x7), (8, .int x8)]) [0, 1, 2, 3, 4, 5, 6, 7, 8] rfl ?_
      exact EvI.tr hB rfl

set_option maxRecDepth 20000 in
set_option maxHeartbeats 2000000 in
theorem kX6_addToGroups_94 {K : KT} {G : St} {Q : Int32 → St → Prop} {x1 : Int32} {x2 : Int32} {x3 : Int32} {x4 : Int32} {x5 : Int32} {x6 : Int32} {x7 : Int32} {x8 : Int32} (hL : Lay G.2.2) 
    (hB : EvI K mX6_addToGroups 0 28 [(0, .ref 18), (1, .int x1), (2, .int x2), (3, .int x3), (4, .int x4), (5, .int x5), (6, .int x6), (7, .int x7), (8, .int (x8 + 1))] [] G Q) :
    EvI K mX6_addToGroups 0 94 [(0, .ref 18), (1, .int x1), (2, .int x2), (3, .int x3), (4, .int x4), (5, .int x5), (6, .int x6), (7, .int x7), (8, .int x8)] [] G Q := by
  refine E_iinc (v := x8 + 1) (lv' := [(0, .ref 18), (1, .int x1), (2, .int x2), (3, .int x3), (4, .int x4), (5, .int x5), (6, .int x6), (7, .int x7), (8, .int (x8 + 1))]) 8 dX6_addToGroups_94 rfl rfl (by decide) rfl ?_
  refine E_goto (tgt := 28) dX6_addToGroups_97 (by decide) ?_
  exact EvI.tr hB rfl

set_option maxRecDepth 20000 in
set_option maxHeartbeats 2000000 in
theorem kX6_grow_0 {K : KT} {G : St} {Q : St → Prop} {x1 : Int32} {x2 : Int32} {x3 : Int32} {x4 : Int32} {d d2 : Nat} (hd : d2 < d) (hd9 : 3 < d) (hL : Lay G.2.2) 
    (hB : (((x1 + 1) < (sI G 18 12) → EvI K mJ6_bitCount_0f7a4 0 0 [(0, .int x4)] [] G (fun r1 G1 => EvVa K mX6_grow d 31 [(0, .ref 18), (1, .int x1), (2, .int x2), (3, .int x3), (4, .int x4), (5, .int x4), (6, .int r1)] [] G1 Q)) ∧ (¬ (x1 + 1) < (sI G 18 12) → EvVa K mX6_lookAtLast 3 0 [(0, .ref 18), (1, .int x1), (2, .int x2), (3, .int x3), (4, .int x4)] [] G (fun G2 => Lay G2.2.2 ∧ Q G2)))) :
    EvVa K mX6_grow d 0 [(0, .ref 18), (1, .int x1), (2, .int x2), (3, .int x3), (4, .int x4)] [] G Q := by
  refine E_iload_n 1 dX6_grow_0 rfl rfl ?_
  refine E_iconst (v := 1) dX6_grow_1 (by decide) ?_
  refine E_iadd dX6_grow_2 ?_
  refine E_aload_n 0 dX6_grow_3 rfl rfl rfl ?_
  refine E_gI (v := sI G 18 12) fG_X6_69 rfl (lo_18 hL) rfl dX6_grow_4 ?_
  refine E_icmp_lt (tgt := 20) dX6_grow_7 (by decide) (fun c => ?_) (fun c => ?_)
  · have hB := hB.1 c
    refine E_iload 4 dX6_grow_20 rfl ?_
    refine E_istore (lv' := [(0, .ref 18), (1, .int x1), (2, .int x2), (3, .int x3), (4, .int x4), (5, .int x4)]) dX6_grow_22 (by decide) rfl ?_
    refine E_iload 4 dX6_grow_24 rfl ?_
    refine E_callS (as := [.int x4]) (st := []) cm_J6_bitCount_0f7a4 cS_X6_86 rfl rfl (by omega) (Nat.le_of_ble_eq_true rfl) (Nat.le_of_ble_eq_true rfl) dX6_grow_26 hB (fun r G1 hr => ?_)
    obtain ⟨r1, rfl, hE1, hB⟩ := hr
    have hL1 : Lay G1.2.2 := by rw [hE1]; exact hL
    show Ev K mX6_grow d 29 [(0, .ref 18), (1, .int x1), (2, .int x2), (3, .int x3), (4, .int x4), (5, .int x4)] [.int r1] G1 _
    refine E_istore (lv' := [(0, .ref 18), (1, .int x1), (2, .int x2), (3, .int x3), (4, .int x4), (5, .int x4), (6, .int r1)]) dX6_grow_29 (by decide) rfl ?_
    exact hB
  · have hB := hB.2 c
    refine E_aload_n 0 dX6_grow_10 rfl rfl rfl ?_
    refine E_iload_n 1 dX6_grow_11 rfl rfl ?_
    refine E_iload_n 2 dX6_grow_12 rfl rfl ?_
    refine E_iload_n 3 dX6_grow_13 rfl rfl ?_
    refine E_iload 4 dX6_grow_14 rfl ?_
    refine E_cV (ci := 6) (as := [.int x1, .int x2, .int x3, .int x4]) (st := []) cm_X6_lookAtLast cV_X6_100 ⟨_, _, rfl⟩ (by decide) (lo_18 hL) rfl rfl (by omega) (Nat.le_of_ble_eq_true rfl) (Nat.le_of_ble_eq_true rfl) dX6_grow_16 hB (fun r G2 hr => ?_)
    obtain ⟨rfl, hL2, hB⟩ := hr
    show Ev K mX6_grow d 19 [(0, .ref 18), (1, .int x1), (2, .int x2), (3, .int x3), (4, .int x4)] [] G2 _
    exact E_vret rfl dX6_grow_19 ⟨rfl, hB⟩

set_option maxRecDepth 20000 in
set_option maxHeartbeats 2000000 in
theorem kX6_grow_31 {K : KT} {G : St} {Q : St → Prop} {x1 : Int32} {x2 : Int32} {x3 : Int32} {x4 : Int32} {x5 : Int32} {x6 : Int32} {d d2 : Nat} (hd : d2 < d) (hd9 : 3 < d) (hL : Lay G.2.2) 
    (hB : ((x6 ≤ 0 → Q G) ∧ (¬ x6 ≤ 0 → EvI K mJ6_numberOfTrailingZeros_0f7a4 0 0 [(0, .int x5)] [] G (fun r1 G1 => vp_in r1 30 ∧ ((((x4 &&& ((1 <<< (r1 &&& 31)) - 1)) &&& (sI G1 21 (Int32.toNatClampNeg r1))) = 0 → EvVa K mX6_grow d 115 [(0, .ref 18), (1, .int x1), (2, .int x2), (3, .int x3), (4, .int x4), (5, .int (x5 &&& (x5 - 1))), (6, .int x6)] [] G1 Q) ∧ (¬ ((x4 &&& ((1 <<< (r1 &&& 31)) - 1)) &&& (sI G1 21 (Int32.toNatClampNeg r1))) = 0 → EvI K mX6_addToGroups 0 0 [(0, .ref 18), (1, .int x1), (2, .int r1), (3, .int ((x4 &&& ((1 <<< (r1 &&& 31)) - 1)) &&& (sI G1 21 (Int32.toNatClampNeg r1))))] [] G1 (fun r3 G3 => ((r3 = 0 → EvVa K mX6_grow d 115 [(0, .ref 18), (1, .int x1), (2, .int x2), (3, .int x3), (4, .int x4), (5, .int (x5 &&& (x5 - 1))), (6, .int x6)] [] G3 Q) ∧ (¬ r3 = 0 → vp_in r1 30 ∧ EvVa K mX6_grow d2 0 [(0, .ref 18), (1, .int (x1 + 1)), (2, .int (x2 ||| (1 <<< (r1 &&& 31)))), (3, .int (x3 ||| (sI G3 10 (Int32.toNatClampNeg r1)))), (4, .int ((x4 &&& ((1 <<< (r1 &&& 31)) - 1)) &&& (sI G1 21 (Int32.toNatClampNeg r1))))] [] G3 (fun G5 => Lay G5.2.2 ∧ EvVa K mX6_grow d 115 [(0, .ref 18), (1, .int x1), (2, .int x2), (3, .int x3), (4, .int x4), (5, .int (x5 &&& (x5 - 1))), (6, .int x6)] [] G5 Q)))))))))) :
    EvVa K mX6_grow d 31 [(0, .ref 18), (1, .int x1), (2, .int x2), (3, .int x3), (4, .int x4), (5, .int x5), (6, .int x6)] [] G Q := by
  refine E_iload 6 dX6_grow_31 rfl ?_
  refine E_if_le (tgt := 121) dX6_grow_33 (by decide) (fun c => ?_) (fun c => ?_)
  · have hB := hB.1 c
    exact E_vret rfl dX6_grow_121 ⟨rfl, hB⟩
  · have hB := hB.2 c
    refine E_iload 5 dX6_grow_36 rfl ?_
    refine E_callS (as := [.int x5]) (st := []) cm_J6_numberOfTrailingZeros_0f7a4 cS_X6_97 rfl rfl (by omega) (Nat.le_of_ble_eq_true rfl) (Nat.le_of_ble_eq_true rfl) dX6_grow_38 hB (fun r G1 hr => ?_)
    obtain ⟨r1, rfl, hE1, hB⟩ := hr
    have hL1 : Lay G1.2.2 := by rw [hE1]; exact hL
    show Ev K mX6_grow d 41 [(0, .ref 18), (1, .int x1), (2, .int x2), (3, .int x3), (4, .int x4), (5, .int x5), (6, .int x6)] [.int r1] G1 _
    refine E_istore (lv' := [(0, .ref 18), (1, .int x1), (2, .int x2), (3, .int x3), (4, .int x4), (5, .int x5), (6, .int x6), (7, .int r1)]) dX6_grow_41 (by decide) rfl ?_
    refine E_iload 5 dX6_grow_43 rfl ?_
    refine E_iload 5 dX6_grow_45 rfl ?_
    refine E_iconst (v := 1) dX6_grow_47 (by decide) ?_
    refine E_isub dX6_grow_48 ?_
    refine E_iand dX6_grow_49 ?_
    refine E_istore (lv' := [(0, .ref 18), (1, .int x1), (2, .int x2), (3, .int x3), (4, .int x4), (5, .int (x5 &&& (x5 - 1))), (6, .int x6), (7, .int r1)]) dX6_grow_50 (by decide) rfl ?_
    refine E_iload 4 dX6_grow_52 rfl ?_
    refine E_iconst (v := 1) dX6_grow_54 (by decide) ?_
    refine E_iload 7 dX6_grow_55 rfl ?_
    refine E_ishl dX6_grow_57 ?_
    refine E_iconst (v := 1) dX6_grow_58 (by decide) ?_
    refine E_isub dX6_grow_59 ?_
    refine E_iand dX6_grow_60 ?_
    refine E_aload_n 0 dX6_grow_61 rfl rfl rfl ?_
    refine E_gR (j := 21) fG_X6_20 rfl (lo_18 hL1) (lr_18_4 hL1) (by decide) dX6_grow_62 ?_
    refine E_iload 7 dX6_grow_65 rfl ?_
    obtain ⟨qq2, hB⟩ := hB
    refine E_aI (p := Int32.toNatClampNeg r1) (v := sI G1 21 (Int32.toNatClampNeg r1)) (la_21 hL1) qq2 rfl rfl dX6_grow_67 ?_
    refine E_iand dX6_grow_68 ?_
    refine E_istore (lv' := [(0, .ref 18), (1, .int x1), (2, .int x2), (3, .int x3), (4, .int x4), (5, .int (x5 &&& (x5 - 1))), (6, .int x6), (7, .int r1), (8, .int ((x4 &&& ((1 <<< (r1 &&& 31)) - 1)) &&& (sI G1 21 (Int32.toNatClampNeg r1))))]) dX6_grow_69 (by decide) rfl ?_
    refine E_iload 8 dX6_grow_71 rfl ?_
    refine E_if_eq (tgt := 115) dX6_grow_73 (by decide) (fun c => ?_) (fun c => ?_)
    · have hB := hB.1 c
      refine E_sub (lv' := [(0, .ref 18), (1, .int x1), (2, .int x2), (3, .int x3), (4, .int x4), (5, .int (x5 &&& (x5 - 1))), (6, .int x6)]) [0, 1, 2, 3, 4, 5, 6] rfl ?_
      exact hB
    · have hB := hB.2 c
      refine E_aload_n 0 dX6_grow_76 rfl rfl rfl ?_
      refine E_iload_n 1 dX6_grow_77 rfl rfl ?_
      refine E_iload 7 dX6_grow_78 rfl ?_
      refine E_iload 8 dX6_grow_80 rfl ?_
      refine E_cV (ci := 6) (as := [.int x1, .int r1, .int ((x4 &&& ((1 <<< (r1 &&& 31)) - 1)) &&& (sI G1 21 (Int32.toNatClampNeg r1)))]) (st := []) cm_X6_addToGroups cV_X6_103 ⟨_, _, rfl⟩ (by decide) (lo_18 hL1) rfl rfl (by omega) (Nat.le_of_ble_eq_true rfl) (Nat.le_of_ble_eq_true rfl) dX6_grow_82 hB (fun r G3 hr => ?_)
      obtain ⟨r3, rfl, hE3, hB⟩ := hr
      have hL3 : Lay G3.2.2 := by rw [hE3]; exact hL1
      show Ev K mX6_grow d 85 [(0, .ref 18), (1, .int x1), (2, .int x2), (3, .int x3), (4, .int x4), (5, .int (x5 &&& (x5 - 1))), (6, .int x6), (7, .int r1), (8, .int ((x4 &&& ((1 <<< (r1 &&& 31)) - 1)) &&& (sI G1 21 (Int32.toNatClampNeg r1))))] [.int r3] G3 _
      refine E_if_eq (tgt := 115) dX6_grow_85 (by decide) (fun c => ?_) (fun c => ?_)
      · have hB := hB.1 c
        refine E_sub (lv' := [(0, .ref 18), (1, .int x1), (2, .int x2), (3, .int x3), (4, .int x4), (5, .int (x5 &&& (x5 - 1))), (6, .int x6)]) [0, 1, 2, 3, 4, 5, 6] rfl ?_
        exact hB
      · have hB := hB.2 c
        refine E_aload_n 0 dX6_grow_88 rfl rfl rfl ?_
        refine E_iload_n 1 dX6_grow_89 rfl rfl ?_
        refine E_iconst (v := 1) dX6_grow_90 (by decide) ?_
        refine E_iadd dX6_grow_91 ?_
        refine E_iload_n 2 dX6_grow_92 rfl rfl ?_
        refine E_iconst (v := 1) dX6_grow_93 (by decide) ?_
        refine E_iload 7 dX6_grow_94 rfl ?_
        refine E_ishl dX6_grow_96 ?_
        refine E_ior dX6_grow_97 ?_
        refine E_iload_n 3 dX6_grow_98 rfl rfl ?_
        refine E_aload_n 0 dX6_grow_99 rfl rfl rfl ?_
        refine E_gR (j := 5) fG_X6_46 rfl (lo_18 hL3) (lr_18_1 hL3) (by decide) dX6_grow_100 ?_
        refine E_gR (j := 10) fG_X6_107 rfl (lo_5 hL3) (lr_5_5 hL3) (by decide) dX6_grow_103 ?_
        refine E_iload 7 dX6_grow_106 rfl ?_
        obtain ⟨qq4, hB⟩ := hB
        refine E_aI (p := Int32.toNatClampNeg r1) (v := sI G3 10 (Int32.toNatClampNeg r1)) (la_10 hL3) qq4 rfl rfl dX6_grow_108 ?_
        refine E_ior dX6_grow_109 ?_
        refine E_iload 8 dX6_grow_110 rfl ?_
        refine E_cV (ci := 6) (as := [.int (x1 + 1), .int (x2 ||| (1 <<< (r1 &&& 31))), .int (x3 ||| (sI G3 10 (Int32.toNatClampNeg r1))), .int ((x4 &&& ((1 <<< (r1 &&& 31)) - 1)) &&& (sI G1 21 (Int32.toNatClampNeg r1)))]) (st := []) cm_X6_grow cV_X6_72 ⟨_, _, rfl⟩ (by decide) (lo_18 hL3) rfl rfl hd (Nat.le_of_ble_eq_true rfl) (Nat.le_of_ble_eq_true rfl) dX6_grow_112 hB (fun r G5 hr => ?_)
        obtain ⟨rfl, hL5, hB⟩ := hr
        show Ev K mX6_grow d 115 [(0, .ref 18), (1, .int x1), (2, .int x2), (3, .int x3), (4, .int x4), (5, .int (x5 &&& (x5 - 1))), (6, .int x6), (7, .int r1), (8, .int ((x4 &&& ((1 <<< (r1 &&& 31)) - 1)) &&& (sI G1 21 (Int32.toNatClampNeg r1))))] [] G5 _
        refine E_sub (lv' := [(0, .ref 18), (1, .int x1), (2, .int x2), (3, .int x3), (4, .int x4), (5, .int (x5 &&& (x5 - 1))), (6, .int x6)]) [0, 1, 2, 3, 4, 5, 6] rfl ?_
        exact hB

set_option maxRecDepth 20000 in
set_option maxHeartbeats 2000000 in
theorem kX6_grow_115 {K : KT} {G : St} {Q : St → Prop} {x1 : Int32} {x2 : Int32} {x3 : Int32} {x4 : Int32} {x5 : Int32} {x6 : Int32} {d d2 : Nat} (hd : d2 < d) (hd9 : 3 < d) (hL : Lay G.2.2) 
    (hB : EvVa K mX6_grow d 31 [(0, .ref 18), (1, .int x1), (2, .int x2), (3, .int x3), (4, .int x4), (5, .int x5), (6, .int (x6 + (-1)))] [] G Q) :
    EvVa K mX6_grow d 115 [(0, .ref 18), (1, .int x1), (2, .int x2), (3, .int x3), (4, .int x4), (5, .int x5), (6, .int x6)] [] G Q := by
  refine E_iinc (v := x6 + (-1)) (lv' := [(0, .ref 18), (1, .int x1), (2, .int x2), (3, .int x3), (4, .int x4), (5, .int x5), (6, .int (x6 + (-1)))]) 6 dX6_grow_115 rfl rfl (by decide) rfl ?_
  refine E_goto (tgt := 31) dX6_grow_118 (by decide) ?_
  exact hB

set_option maxRecDepth 20000 in
set_option maxHeartbeats 2000000 in
theorem kX6_widen_0 {K : KT} {G : St} {Q : St → Prop}  (hL : Lay G.2.2) 
    (hB : EvV K mX6_widen 1 2 [(0, .ref 18), (1, .int 0)] [] G Q) :
    EvV K mX6_widen 1 0 [(0, .ref 18)] [] G Q := by
  refine E_iconst (v := 0) dX6_widen_0 (by decide) ?_
  refine E_istore_n (lv' := [(0, .ref 18), (1, .int 0)]) dX6_widen_1 rfl (by decide) rfl ?_
  exact EvV.tr hB rfl

set_option maxRecDepth 20000 in
set_option maxHeartbeats 2000000 in
theorem kX6_widen_2 {K : KT} {G : St} {Q : St → Prop} {x1 : Int32} (hL : Lay G.2.2) 
    (hB : ((30 ≤ x1 → Q G) ∧ (¬ 30 ≤ x1 → vp_in x1 30 ∧ EvI K mJ6_bitCount_0f7a4 0 0 [(0, .int (sI G 21 (Int32.toNatClampNeg x1)))] [] G (fun r2 G2 => EvV K mX6_widen 1 20 [(0, .ref 18), (1, .int x1), (2, .int (sI G 21 (Int32.toNatClampNeg x1))), (3, .int r2)] [] G2 Q)))) :
    EvV K mX6_widen 1 2 [(0, .ref 18), (1, .int x1)] [] G Q := by
  refine E_iload_n 1 dX6_widen_2 rfl rfl ?_
  refine E_bipush (v := 30) dX6_widen_3 (by decide) ?_
  refine E_icmp_ge (tgt := 63) dX6_widen_5 (by decide) (fun c => ?_) (fun c => ?_)
  · have hB := hB.1 c
    exact E_vret rfl dX6_widen_63 ⟨rfl, rfl, hB⟩
  · have hB := hB.2 c
    refine E_aload_n 0 dX6_widen_8 rfl rfl rfl ?_
    refine E_gR (j := 21) fG_X6_20 rfl (lo_18 hL) (lr_18_4 hL) (by decide) dX6_widen_9 ?_
    refine E_iload_n 1 dX6_widen_12 rfl rfl ?_
    obtain ⟨qq1, hB⟩ := hB
    refine E_aI (p := Int32.toNatClampNeg x1) (v := sI G 21 (Int32.toNatClampNeg x1)) (la_21 hL) qq1 rfl rfl dX6_widen_13 ?_
    refine E_istore_n (lv' := [(0, .ref 18), (1, .int x1), (2, .int (sI G 21 (Int32.toNatClampNeg x1)))]) dX6_widen_14 rfl (by decide) rfl ?_
    refine E_iload_n 2 dX6_widen_15 rfl rfl ?_
    refine E_callS (as := [.int (sI G 21 (Int32.toNatClampNeg x1))]) (st := []) cm_J6_bitCount_0f7a4 cS_X6_86 rfl rfl (by decide) (Nat.le_of_ble_eq_true rfl) (Nat.le_of_ble_eq_true rfl) dX6_widen_16 hB (fun r G2 hr => ?_)
    obtain ⟨r2, rfl, hE2, hB⟩ := hr
    have hL2 : Lay G2.2.2 := by rw [hE2]; exact hL
    have hE2 : G2.2.2 = G.2.2 := hE2
    show Ev K mX6_widen 1 19 [(0, .ref 18), (1, .int x1), (2, .int (sI G 21 (Int32.toNatClampNeg x1)))] [.int r2] G2 _
    refine E_istore_n (lv' := [(0, .ref 18), (1, .int x1), (2, .int (sI G 21 (Int32.toNatClampNeg x1))), (3, .int r2)]) dX6_widen_19 rfl (by decide) rfl ?_
    exact EvV.tr hB hE2

set_option maxRecDepth 20000 in
set_option maxHeartbeats 2000000 in
theorem kX6_widen_20 {K : KT} {G : St} {Q : St → Prop} {x1 : Int32} {x2 : Int32} {x3 : Int32} (hL : Lay G.2.2) 
    (hB : ((x3 ≤ 0 → EvV K mX6_widen 1 2 [(0, .ref 18), (1, .int (x1 + 1))] [] G Q) ∧ (¬ x3 ≤ 0 → vp_in x1 30 ∧ EvI K mJ6_numberOfTrailingZeros_0f7a4 0 0 [(0, .int x2)] [] G (fun r2 G2 => vp_in r2 30 ∧ vp_in x1 30 ∧ EvV K mX6_widen 1 20 [(0, .ref 18), (1, .int x1), (2, .int (x2 &&& (x2 - 1))), (3, .int (x3 + (-1)))] [] (uI G2 21 (Int32.toNatClampNeg x1) ((sI G 21 (Int32.toNatClampNeg x1)) ||| (sI G2 13 (Int32.toNatClampNeg r2)))) Q)))) :
    EvV K mX6_widen 1 20 [(0, .ref 18), (1, .int x1), (2, .int x2), (3, .int x3)] [] G Q := by
  refine E_iload_n 3 dX6_widen_20 rfl rfl ?_
  refine E_if_le (tgt := 57) dX6_widen_21 (by decide) (fun c => ?_) (fun c => ?_)
  · have hB := hB.1 c
    refine E_iinc (v := x1 + 1) (lv' := [(0, .ref 18), (1, .int (x1 + 1)), (2, .int x2), (3, .int x3)]) 1 dX6_widen_57 rfl rfl (by decide) rfl ?_
    refine E_goto (tgt := 2) dX6_widen_60 (by decide) ?_
    refine E_sub (lv' := [(0, .ref 18), (1, .int (x1 + 1))]) [0, 1] rfl ?_
    exact EvV.tr hB rfl
  · have hB := hB.2 c
    refine E_aload_n 0 dX6_widen_24 rfl rfl rfl ?_
    refine E_gR (j := 21) fG_X6_20 rfl (lo_18 hL) (lr_18_4 hL) (by decide) dX6_widen_25 ?_
    refine E_iload_n 1 dX6_widen_28 rfl rfl ?_
    refine E_dup2 dX6_widen_29 rfl rfl ?_
    obtain ⟨qq1, hB⟩ := hB
    refine E_aI (p := Int32.toNatClampNeg x1) (v := sI G 21 (Int32.toNatClampNeg x1)) (la_21 hL) qq1 rfl rfl dX6_widen_30 ?_
    refine E_aload_n 0 dX6_widen_31 rfl rfl rfl ?_
    refine E_gR (j := 11) fG_X6_42 rfl (lo_18 hL) (lr_18_0 hL) (by decide) dX6_widen_32 ?_
    refine E_gR (j := 13) fG_X6_92 rfl (lo_11 hL) (lr_11_1 hL) (by decide) dX6_widen_35 ?_
    refine E_iload_n 2 dX6_widen_38 rfl rfl ?_
    refine E_callS (as := [.int x2]) (st := [.ref 13, .int (sI G 21 (Int32.toNatClampNeg x1)), .int x1, .ref 21]) cm_J6_numberOfTrailingZeros_0f7a4 cS_X6_97 rfl rfl (by decide) (Nat.le_of_ble_eq_true rfl) (Nat.le_of_ble_eq_true rfl) dX6_widen_39 hB (fun r G2 hr => ?_)
    obtain ⟨r2, rfl, hE2, hB⟩ := hr
    have hL2 : Lay G2.2.2 := by rw [hE2]; exact hL
    have hE2 : G2.2.2 = G.2.2 := hE2
    show Ev K mX6_widen 1 42 [(0, .ref 18), (1, .int x1), (2, .int x2), (3, .int x3)] [.int r2, .ref 13, .int (sI G 21 (Int32.toNatClampNeg x1)), .int x1, .ref 21] G2 _
    obtain ⟨qq3, hB⟩ := hB
    refine E_aI (p := Int32.toNatClampNeg r2) (v := sI G2 13 (Int32.toNatClampNeg r2)) (la_13 hL2) qq3 rfl rfl dX6_widen_42 ?_
    refine E_ior dX6_widen_43 ?_
    obtain ⟨qq4, hB⟩ := hB
    refine E_sI (p := Int32.toNatClampNeg x1) (la_21 hL2) qq4 rfl dX6_widen_44 ?_
    refine E_iload_n 2 dX6_widen_45 rfl rfl ?_
    refine E_iload_n 2 dX6_widen_46 rfl rfl ?_
    refine E_iconst (v := 1) dX6_widen_47 (by decide) ?_
    refine E_isub dX6_widen_48 ?_
    refine E_iand dX6_widen_49 ?_
    refine E_istore_n (lv' := [(0, .ref 18), (1, .int x1), (2, .int (x2 &&& (x2 - 1))), (3, .int x3)]) dX6_widen_50 rfl (by decide) rfl ?_
    refine E_iinc (v := x3 + (-1)) (lv' := [(0, .ref 18), (1, .int x1), (2, .int (x2 &&& (x2 - 1))), (3, .int (x3 + (-1)))]) 3 dX6_widen_51 rfl rfl (by decide) rfl ?_
    refine E_goto (tgt := 20) dX6_widen_54 (by decide) ?_
    exact EvV.tr hB hE2

set_option maxRecDepth 20000 in
set_option maxHeartbeats 2000000 in
theorem kX6_leastTie_0 {K : KT} {G : St} {Q : Int32 → St → Prop} {x1 : Int32} {x2 : Int32} (hL : Lay G.2.2) 
    (hB : vp_in x1 30 ∧ EvI K mJ6_bitCount_0f7a4 0 0 [(0, .int ((sI G 13 (Int32.toNatClampNeg x1)) &&& x2))] [] G (fun r2 G2 => EvI K mX6_leastTie 1 21 [(0, .ref 18), (1, .int x1), (3, .int ((sI G 13 (Int32.toNatClampNeg x1)) &&& x2)), (4, .int 0), (5, .int r2)] [] G2 Q)) :
    EvI K mX6_leastTie 1 0 [(0, .ref 18), (1, .int x1), (2, .int x2)] [] G Q := by
  refine E_aload_n 0 dX6_leastTie_0 rfl rfl rfl ?_
  refine E_gR (j := 11) fG_X6_42 rfl (lo_18 hL) (lr_18_0 hL) (by decide) dX6_leastTie_1 ?_
  refine E_gR (j := 13) fG_X6_92 rfl (lo_11 hL) (lr_11_1 hL) (by decide) dX6_leastTie_4 ?_
  refine E_iload_n 1 dX6_leastTie_7 rfl rfl ?_
  obtain ⟨qq1, hB⟩ := hB
  refine E_aI (p := Int32.toNatClampNeg x1) (v := sI G 13 (Int32.toNatClampNeg x1)) (la_13 hL) qq1 rfl rfl dX6_leastTie_8 ?_
  refine E_iload_n 2 dX6_leastTie_9 rfl rfl ?_
  refine E_iand dX6_leastTie_10 ?_
  refine E_istore_n (lv' := [(0, .ref 18), (1, .int x1), (2, .int x2), (3, .int ((sI G 13 (Int32.toNatClampNeg x1)) &&& x2))]) dX6_leastTie_11 rfl (by decide) rfl ?_
  refine E_iconst (v := 0) dX6_leastTie_12 (by decide) ?_
  refine E_istore (lv' := [(0, .ref 18), (1, .int x1), (2, .int x2), (3, .int ((sI G 13 (Int32.toNatClampNeg x1)) &&& x2)), (4, .int 0)]) dX6_leastTie_13 (by decide) rfl ?_
  refine E_iload_n 3 dX6_leastTie_15 rfl rfl ?_
  refine E_callS (as := [.int ((sI G 13 (Int32.toNatClampNeg x1)) &&& x2)]) (st := []) cm_J6_bitCount_0f7a4 cS_X6_86 rfl rfl (by decide) (Nat.le_of_ble_eq_true rfl) (Nat.le_of_ble_eq_true rfl) dX6_leastTie_16 hB (fun r G2 hr => ?_)
  obtain ⟨r2, rfl, hE2, hB⟩ := hr
  have hL2 : Lay G2.2.2 := by rw [hE2]; exact hL
  have hE2 : G2.2.2 = G.2.2 := hE2
  show Ev K mX6_leastTie 1 19 [(0, .ref 18), (1, .int x1), (2, .int x2), (3, .int ((sI G 13 (Int32.toNatClampNeg x1)) &&& x2)), (4, .int 0)] [.int r2] G2 _
  refine E_istore (lv' := [(0, .ref 18), (1, .int x1), (2, .int x2), (3, .int ((sI G 13 (Int32.toNatClampNeg x1)) &&& x2)), (4, .int 0), (5, .int r2)]) dX6_leastTie_19 (by decide) rfl ?_
  refine E_sub (lv' := [(0, .ref 18), (1, .int x1), (3, .int ((sI G 13 (Int32.toNatClampNeg x1)) &&& x2)), (4, .int 0), (5, .int r2)]) [0, 1, 3, 4, 5] rfl ?_
  exact EvI.tr hB hE2

set_option maxRecDepth 20000 in
set_option maxHeartbeats 2000000 in
theorem kX6_leastTie_21 {K : KT} {G : St} {Q : Int32 → St → Prop} {x1 : Int32} {x3 : Int32} {x4 : Int32} {x5 : Int32} (hL : Lay G.2.2) 
    (hB : ((x5 ≤ 0 → Q x4 G) ∧ (¬ x5 ≤ 0 → EvI K mJ6_numberOfTrailingZeros_0f7a4 0 0 [(0, .int x3)] [] G (fun r1 G1 => EvI K mX9_priceOf 0 0 [(0, .ref 11), (1, .int x1), (2, .int r1)] [] G1 (fun r2 G2 => ((x4 = 0 → EvI K mX6_leastTie 1 62 [(0, .ref 18), (1, .int x1), (3, .int (x3 &&& (x3 - 1))), (4, .int r2), (5, .int x5)] [] G2 Q) ∧ (¬ x4 = 0 → ((x4 ≤ r2 → EvI K mX6_leastTie 1 62 [(0, .ref 18), (1, .int x1), (3, .int (x3 &&& (x3 - 1))), (4, .int x4), (5, .int x5)] [] G2 Q) ∧ (¬ x4 ≤ r2 → EvI K mX6_leastTie 1 62 [(0, .ref 18), (1, .int x1), (3, .int (x3 &&& (x3 - 1))), (4, .int r2), (5, .int x5)] [] G2 Q))))))))) :
    EvI K mX6_leastTie 1 21 [(0, .ref 18), (1, .int x1), (3, .int x3), (4, .int x4), (5, .int x5)] [] G Q := by
  refine E_iload 4 dX6_leastTie_21 rfl ?_
  refine E_if_le (tgt := 68) dX6_leastTie_23 (by decide) (fun c => ?_) (fun c => ?_)
  · have hB := hB.1 c
    refine E_iload 3 dX6_leastTie_68 rfl ?_
    exact E_iret rfl dX6_leastTie_70 ⟨_, rfl, rfl, hB⟩
  · have hB := hB.2 c
    refine E_aload_n 0 dX6_leastTie_26 rfl rfl rfl ?_
    refine E_gR (j := 11) fG_X6_42 rfl (lo_18 hL) (lr_18_0 hL) (by decide) dX6_leastTie_27 ?_
    refine E_iload_n 1 dX6_leastTie_30 rfl rfl ?_
    refine E_iload_n 2 dX6_leastTie_31 rfl rfl ?_
    refine E_callS (as := [.int x3]) (st := [.int x1, .ref 11]) cm_J6_numberOfTrailingZeros_0f7a4 cS_X6_97 rfl rfl (by decide) (Nat.le_of_ble_eq_true rfl) (Nat.le_of_ble_eq_true rfl) dX6_leastTie_32 hB (fun r G1 hr => ?_)
    obtain ⟨r1, rfl, hE1, hB⟩ := hr
    have hL1 : Lay G1.2.2 := by rw [hE1]; exact hL
    have hE1 : G1.2.2 = G.2.2 := hE1
    show Ev K mX6_leastTie 1 35 [(0, .ref 18), (1, .int x1), (3, .int x3), (4, .int x4), (5, .int x5)] [.int r1, .int x1, .ref 11] G1 _
    refine E_cV (ci := 9) (as := [.int x1, .int r1]) (st := []) cm_X9_priceOf cV_X6_157 ⟨_, _, rfl⟩ (by decide) (lo_11 hL1) rfl rfl (by decide) (Nat.le_of_ble_eq_true rfl) (Nat.le_of_ble_eq_true rfl) dX6_leastTie_35 hB (fun r G2 hr => ?_)
    obtain ⟨r2, rfl, hE2, hB⟩ := hr
    have hL2 : Lay G2.2.2 := by rw [hE2]; exact hL1
    have hE2 : G2.2.2 = G.2.2 := hE2.trans hE1
    show Ev K mX6_leastTie 1 38 [(0, .ref 18), (1, .int x1), (3, .int x3), (4, .int x4), (5, .int x5)] [.int r2] G2 _
    refine E_istore (lv' := [(0, .ref 18), (1, .int x1), (3, .int x3), (4, .int x4), (5, .int x5), (6, .int r2)]) dX6_leastTie_38 (by decide) rfl ?_
    refine E_iload_n 2 dX6_leastTie_40 rfl rfl ?_
    refine E_iload_n 2 dX6_leastTie_41 rfl rfl ?_
    refine E_iconst (v := 1) dX6_leastTie_42 (by decide) ?_
    refine E_isub dX6_leastTie_43 ?_
    refine E_iand dX6_leastTie_44 ?_
    refine E_istore_n (lv' := [(0, .ref 18), (1, .int x1), (3, .int (x3 &&& (x3 - 1))), (4, .int x4), (5, .int x5), (6, .int r2)]) dX6_leastTie_45 rfl (by decide) rfl ?_
    refine E_iload 3 dX6_leastTie_46 rfl ?_
    refine E_if_eq (tgt := 58) dX6_leastTie_48 (by decide) (fun c => ?_) (fun c => ?_)
    · have hB := hB.1 c
      refine E_iload 5 dX6_leastTie_58 rfl ?_
      refine E_istore (lv' := [(0, .ref 18), (1, .int x1), (3, .int (x3 &&& (x3 - 1))), (4, .int r2), (5, .int x5), (6, .int r2)]) dX6_leastTie_60 (by decide) rfl ?_
      refine E_sub (lv' := [(0, .ref 18), (1, .int x1), (3, .int (x3 &&& (x3 - 1))), (4, .int r2), (5, .int x5)]) [0, 1, 2, 3, 4] rfl ?_
      exact EvI.tr hB hE2
    · have hB := hB.2 c
      refine E_iload 5 dX6_leastTie_51 rfl ?_
      refine E_iload 3 dX6_leastTie_53 rfl ?_
      refine E_icmp_ge (tgt := 62) dX6_leastTie_55 (by decide) (fun c => ?_) (fun c => ?_)
      · have hB := hB.1 c
        refine E_sub (lv' := [(0, .ref 18), (1, .int x1), (3, .int (x3 &&& (x3 - 1))), (4, .int x4), (5, .int x5)]) [0, 1, 2, 3, 4] rfl ?_
        exact EvI.tr hB hE2
      · have hB := hB.2 c
        refine E_iload 5 dX6_leastTie_58 rfl ?_
        refine E_istore (lv' := [(0, .ref 18), (1, .int x1), (3, .int (x3 &&& (x3 - 1))), (4, .int r2), (5, .int x5), (6, .int r2)]) dX6_leastTie_60 (by decide) rfl ?_
        refine E_sub (lv' := [(0, .ref 18), (1, .int x1), (3, .int (x3 &&& (x3 - 1))), (4, .int r2), (5, .int x5)]) [0, 1, 2, 3, 4] rfl ?_
        exact EvI.tr hB hE2

set_option maxRecDepth 20000 in
set_option maxHeartbeats 2000000 in
theorem kX6_leastTie_62 {K : KT} {G : St} {Q : Int32 → St → Prop} {x1 : Int32} {x3 : Int32} {x4 : Int32} {x5 : Int32} (hL : Lay G.2.2) 
    (hB : EvI K mX6_leastTie 1 21 [(0, .ref 18), (1, .int x1), (3, .int x3), (4, .int x4), (5, .int (x5 + (-1)))] [] G Q) :
    EvI K mX6_leastTie 1 62 [(0, .ref 18), (1, .int x1), (3, .int x3), (4, .int x4), (5, .int x5)] [] G Q := by
  refine E_iinc (v := x5 + (-1)) (lv' := [(0, .ref 18), (1, .int x1), (3, .int x3), (4, .int x4), (5, .int (x5 + (-1)))]) 4 dX6_leastTie_62 rfl rfl (by decide) rfl ?_
  refine E_goto (tgt := 21) dX6_leastTie_65 (by decide) ?_
  exact EvI.tr hB rfl

set_option maxRecDepth 20000 in
set_option maxHeartbeats 2000000 in
theorem kX6_tieSum_0 {K : KT} {G : St} {Q : Int32 → St → Prop} {x1 : Int32} (hL : Lay G.2.2) 
    (hB : EvI K mJ6_bitCount_0f7a4 0 0 [(0, .int x1)] [] G (fun r1 G1 => EvI K mX6_tieSum 2 13 [(0, .ref 18), (1, .int x1), (2, .int (x1 &&& (-x1))), (3, .int 0), (4, .int r1)] [] G1 Q)) :
    EvI K mX6_tieSum 2 0 [(0, .ref 18), (1, .int x1)] [] G Q := by
  refine E_iload_n 1 dX6_tieSum_0 rfl rfl ?_
  refine E_iload_n 1 dX6_tieSum_1 rfl rfl ?_
  refine E_ineg dX6_tieSum_2 ?_
  refine E_iand dX6_tieSum_3 ?_
  refine E_istore_n (lv' := [(0, .ref 18), (1, .int x1), (2, .int (x1 &&& (-x1)))]) dX6_tieSum_4 rfl (by decide) rfl ?_
  refine E_iconst (v := 0) dX6_tieSum_5 (by decide) ?_
  refine E_istore_n (lv' := [(0, .ref 18), (1, .int x1), (2, .int (x1 &&& (-x1))), (3, .int 0)]) dX6_tieSum_6 rfl (by decide) rfl ?_
  refine E_iload_n 1 dX6_tieSum_7 rfl rfl ?_
  refine E_callS (as := [.int x1]) (st := []) cm_J6_bitCount_0f7a4 cS_X6_86 rfl rfl (by decide) (Nat.le_of_ble_eq_true rfl) (Nat.le_of_ble_eq_true rfl) dX6_tieSum_8 hB (fun r G1 hr => ?_)
  obtain ⟨r1, rfl, hE1, hB⟩ := hr
  have hL1 : Lay G1.2.2 := by rw [hE1]; exact hL
  have hE1 : G1.2.2 = G.2.2 := hE1
  show Ev K mX6_tieSum 2 11 [(0, .ref 18), (1, .int x1), (2, .int (x1 &&& (-x1))), (3, .int 0)] [.int r1] G1 _
  refine E_istore (lv' := [(0, .ref 18), (1, .int x1), (2, .int (x1 &&& (-x1))), (3, .int 0), (4, .int r1)]) dX6_tieSum_11 (by decide) rfl ?_
  exact EvI.tr hB hE1

set_option maxRecDepth 20000 in
set_option maxHeartbeats 2000000 in
theorem kX6_tieSum_13 {K : KT} {G : St} {Q : Int32 → St → Prop} {x1 : Int32} {x2 : Int32} {x3 : Int32} {x4 : Int32} (hL : Lay G.2.2) 
    (hB : ((x4 ≤ 1 → Q x3 G) ∧ (¬ x4 ≤ 1 → EvI K mJ6_bitCount_0f7a4 0 0 [(0, .int (x1 &&& (x2 ^^^ (-1))))] [] G (fun r1 G1 => EvI K mX6_tieSum 2 39 [(0, .ref 18), (1, .int x1), (2, .int x2), (3, .int x3), (4, .int x4), (5, .int 0), (6, .int 0), (7, .int (x1 &&& (x2 ^^^ (-1)))), (8, .int r1)] [] G1 Q)))) :
    EvI K mX6_tieSum 2 13 [(0, .ref 18), (1, .int x1), (2, .int x2), (3, .int x3), (4, .int x4)] [] G Q := by
  refine E_iload 4 dX6_tieSum_13 rfl ?_
  refine E_iconst (v := 1) dX6_tieSum_15 (by decide) ?_
  refine E_icmp_le (tgt := 127) dX6_tieSum_16 (by decide) (fun c => ?_) (fun c => ?_)
  · have hB := hB.1 c
    refine E_iload_n 3 dX6_tieSum_127 rfl rfl ?_
    exact E_iret rfl dX6_tieSum_128 ⟨_, rfl, rfl, hB⟩
  · have hB := hB.2 c
    refine E_iconst (v := 0) dX6_tieSum_19 (by decide) ?_
    refine E_istore (lv' := [(0, .ref 18), (1, .int x1), (2, .int x2), (3, .int x3), (4, .int x4), (5, .int 0)]) dX6_tieSum_20 (by decide) rfl ?_
    refine E_iconst (v := 0) dX6_tieSum_22 (by decide) ?_
    refine E_istore (lv' := [(0, .ref 18), (1, .int x1), (2, .int x2), (3, .int x3), (4, .int x4), (5, .int 0), (6, .int 0)]) dX6_tieSum_23 (by decide) rfl ?_
    refine E_iload_n 1 dX6_tieSum_25 rfl rfl ?_
    refine E_iload_n 2 dX6_tieSum_26 rfl rfl ?_
    refine E_iconst (v := (-1)) dX6_tieSum_27 (by decide) ?_
    refine E_ixor dX6_tieSum_28 ?_
    refine E_iand dX6_tieSum_29 ?_
    refine E_istore (lv' := [(0, .ref 18), (1, .int x1), (2, .int x2), (3, .int x3), (4, .int x4), (5, .int 0), (6, .int 0), (7, .int (x1 &&& (x2 ^^^ (-1))))]) dX6_tieSum_30 (by decide) rfl ?_
    refine E_iload 7 dX6_tieSum_32 rfl ?_
    refine E_callS (as := [.int (x1 &&& (x2 ^^^ (-1)))]) (st := []) cm_J6_bitCount_0f7a4 cS_X6_86 rfl rfl (by decide) (Nat.le_of_ble_eq_true rfl) (Nat.le_of_ble_eq_true rfl) dX6_tieSum_34 hB (fun r G1 hr => ?_)
    obtain ⟨r1, rfl, hE1, hB⟩ := hr
    have hL1 : Lay G1.2.2 := by rw [hE1]; exact hL
    have hE1 : G1.2.2 = G.2.2 := hE1
    show Ev K mX6_tieSum 2 37 [(0, .ref 18), (1, .int x1), (2, .int x2), (3, .int x3), (4, .int x4), (5, .int 0), (6, .int 0), (7, .int (x1 &&& (x2 ^^^ (-1))))] [.int r1] G1 _
    refine E_istore (lv' := [(0, .ref 18), (1, .int x1), (2, .int x2), (3, .int x3), (4, .int x4), (5, .int 0), (6, .int 0), (7, .int (x1 &&& (x2 ^^^ (-1)))), (8, .int r1)]) dX6_tieSum_37 (by decide) rfl ?_
    exact EvI.tr hB hE1

set_option maxRecDepth 20000 in
set_option maxHeartbeats 2000000 in
theorem kX6_tieSum_39 {K : KT} {G : St} {Q : Int32 → St → Prop} {x1 : Int32} {x2 : Int32} {x3 : Int32} {x4 : Int32} {x5 : Int32} {x6 : Int32} {x7 : Int32} {x8 : Int32} (hL : Lay G.2.2) 
    (hB : ((x8 ≤ 0 → ((¬ x5 = 0 → EvI K mX6_tieSum 2 119 [(0, .ref 18), (1, .int x1), (3, .int (x3 + x5)), (4, .int x4)] [.int (1 <<< (x6 &&& 31)), .int x2] G Q) ∧ (x5 = 0 → EvI K mX6_tieSum 2 119 [(0, .ref 18), (1, .int x1), (3, .int (x3 + x5)), (4, .int x4)] [.int 0, .int x2] G Q))) ∧ (¬ x8 ≤ 0 → EvI K mJ6_numberOfTrailingZeros_0f7a4 0 0 [(0, .int x7)] [] G (fun r1 G1 => EvI K mX6_leastTie 1 0 [(0, .ref 18), (1, .int r1), (2, .int x2)] [] G1 (fun r2 G2 => ((r2 = 0 → EvI K mX6_tieSum 2 94 [(0, .ref 18), (1, .int x1), (2, .int x2), (3, .int x3), (4, .int x4), (5, .int x5), (6, .int x6), (7, .int (x7 &&& (x7 - 1))), (8, .int x8)] [] G2 Q) ∧ (¬ r2 = 0 → ((x5 = 0 → EvI K mX6_tieSum 2 94 [(0, .ref 18), (1, .int x1), (2, .int x2), (3, .int x3), (4, .int x4), (5, .int r2), (6, .int r1), (7, .int (x7 &&& (x7 - 1))), (8, .int x8)] [] G2 Q) ∧ (¬ x5 = 0 → ((x5 ≤ r2 → EvI K mX6_tieSum 2 94 [(0, .ref 18), (1, .int x1), (2, .int x2), (3, .int x3), (4, .int x4), (5, .int x5), (6, .int x6), (7, .int (x7 &&& (x7 - 1))), (8, .int x8)] [] G2 Q) ∧ (¬ x5 ≤ r2 → EvI K mX6_tieSum 2 94 [(0, .ref 18), (1, .int x1), (2, .int x2), (3, .int x3), (4, .int x4), (5, .int r2), (6, .int r1), (7, .int (x7 &&& (x7 - 1))), (8, .int x8)] [] G2 Q))))))))))) :
    EvI K mX6_tieSum 2 39 [(0, .ref 18), (1, .int x1), (2, .int x2), (3, .int x3), (4, .int x4), (5, .int x5), (6, .int x6), (7, .int x7), (8, .int x8)] [] G Q := by
  refine E_iload 8 dX6_tieSum_39 rfl ?_
  refine E_if_le (tgt := 100) dX6_tieSum_41 (by decide) (fun c => ?_) (fun c => ?_)
  · have hB := hB.1 c
    refine E_iload_n 3 dX6_tieSum_100 rfl rfl ?_
    refine E_iload 5 dX6_tieSum_101 rfl ?_
    refine E_iadd dX6_tieSum_103 ?_
    refine E_istore_n (lv' := [(0, .ref 18), (1, .int x1), (2, .int x2), (3, .int (x3 + x5)), (4, .int x4), (5, .int x5), (6, .int x6), (7, .int x7), (8, .int x8)]) dX6_tieSum_104 rfl (by decide) rfl ?_
    refine E_iload_n 2 dX6_tieSum_105 rfl rfl ?_
    refine E_iload 5 dX6_tieSum_106 rfl ?_
    refine E_if_ne (tgt := 115) dX6_tieSum_108 (by decide) (fun c => ?_) (fun c => ?_)
    · have hB := hB.1 c
      refine E_iconst (v := 1) dX6_tieSum_115 (by decide) ?_
      refine E_iload 6 dX6_tieSum_116 rfl ?_
      refine E_ishl dX6_tieSum_118 ?_
      refine E_sub (lv' := [(0, .ref 18), (1, .int x1), (3, .int (x3 + x5)), (4, .int x4)]) [0, 1, 3, 4] rfl ?_
      exact EvI.tr hB rfl
    · have hB := hB.2 c
      refine E_iconst (v := 0) dX6_tieSum_111 (by decide) ?_
      refine E_goto (tgt := 119) dX6_tieSum_112 (by decide) ?_
      refine E_sub (lv' := [(0, .ref 18), (1, .int x1), (3, .int (x3 + x5)), (4, .int x4)]) [0, 1, 3, 4] rfl ?_
      exact EvI.tr hB rfl
  · have hB := hB.2 c
    refine E_iload 7 dX6_tieSum_44 rfl ?_
    refine E_callS (as := [.int x7]) (st := []) cm_J6_numberOfTrailingZeros_0f7a4 cS_X6_97 rfl rfl (by decide) (Nat.le_of_ble_eq_true rfl) (Nat.le_of_ble_eq_true rfl) dX6_tieSum_46 hB (fun r G1 hr => ?_)
    obtain ⟨r1, rfl, hE1, hB⟩ := hr
    have hL1 : Lay G1.2.2 := by rw [hE1]; exact hL
    have hE1 : G1.2.2 = G.2.2 := hE1
    show Ev K mX6_tieSum 2 49 [(0, .ref 18), (1, .int x1), (2, .int x2), (3, .int x3), (4, .int x4), (5, .int x5), (6, .int x6), (7, .int x7), (8, .int x8)] [.int r1] G1 _
    refine E_istore (lv' := [(0, .ref 18), (1, .int x1), (2, .int x2), (3, .int x3), (4, .int x4), (5, .int x5), (6, .int x6), (7, .int x7), (8, .int x8), (9, .int r1)]) dX6_tieSum_49 (by decide) rfl ?_
    refine E_iload 7 dX6_tieSum_51 rfl ?_
    refine E_iload 7 dX6_tieSum_53 rfl ?_
    refine E_iconst (v := 1) dX6_tieSum_55 (by decide) ?_
    refine E_isub dX6_tieSum_56 ?_
    refine E_iand dX6_tieSum_57 ?_
    refine E_istore (lv' := [(0, .ref 18), (1, .int x1), (2, .int x2), (3, .int x3), (4, .int x4), (5, .int x5), (6, .int x6), (7, .int (x7 &&& (x7 - 1))), (8, .int x8), (9, .int r1)]) dX6_tieSum_58 (by decide) rfl ?_
    refine E_aload_n 0 dX6_tieSum_60 rfl rfl rfl ?_
    refine E_iload 9 dX6_tieSum_61 rfl ?_
    refine E_iload_n 2 dX6_tieSum_63 rfl rfl ?_
    refine E_cV (ci := 6) (as := [.int r1, .int x2]) (st := []) cm_X6_leastTie cV_X6_154 ⟨_, _, rfl⟩ (by decide) (lo_18 hL1) rfl rfl (by decide) (Nat.le_of_ble_eq_true rfl) (Nat.le_of_ble_eq_true rfl) dX6_tieSum_64 hB (fun r G2 hr => ?_)
    obtain ⟨r2, rfl, hE2, hB⟩ := hr
    have hL2 : Lay G2.2.2 := by rw [hE2]; exact hL1
    have hE2 : G2.2.2 = G.2.2 := hE2.trans hE1
    show Ev K mX6_tieSum 2 67 [(0, .ref 18), (1, .int x1), (2, .int x2), (3, .int x3), (4, .int x4), (5, .int x5), (6, .int x6), (7, .int (x7 &&& (x7 - 1))), (8, .int x8), (9, .int r1)] [.int r2] G2 _
    refine E_istore (lv' := [(0, .ref 18), (1, .int x1), (2, .int x2), (3, .int x3), (4, .int x4), (5, .int x5), (6, .int x6), (7, .int (x7 &&& (x7 - 1))), (8, .int x8), (9, .int r1), (10, .int r2)]) dX6_tieSum_67 (by decide) rfl ?_
    refine E_iload 10 dX6_tieSum_69 rfl ?_
    refine E_if_eq (tgt := 94) dX6_tieSum_71 (by decide) (fun c => ?_) (fun c => ?_)
    · have hB := hB.1 c
      refine E_sub (lv' := [(0, .ref 18), (1, .int x1), (2, .int x2), (3, .int x3), (4, .int x4), (5, .int x5), (6, .int x6), (7, .int (x7 &&& (x7 - 1))), (8, .int x8)]) [0, 1, 2, 3, 4, 5, 6, 7, 8] rfl ?_
      exact EvI.tr hB hE2
    · have hB := hB.2 c
      refine E_iload 5 dX6_tieSum_74 rfl ?_
      refine E_if_eq (tgt := 86) dX6_tieSum_76 (by decide) (fun c => ?_) (fun c => ?_)
      · have hB := hB.1 c
        refine E_iload 10 dX6_tieSum_86 rfl ?_
        refine E_istore (lv' := [(0, .ref 18), (1, .int x1), (2, .int x2), (3, .int x3), (4, .int x4), (5, .int r2), (6, .int x6), (7, .int (x7 &&& (x7 - 1))), (8, .int x8), (9, .int r1), (10, .int r2)]) dX6_tieSum_88 (by decide) rfl ?_
        refine E_iload 9 dX6_tieSum_90 rfl ?_
        refine E_istore (lv' := [(0, .ref 18), (1, .int x1), (2, .int x2), (3, .int x3), (4, .int x4), (5, .int r2), (6, .int r1), (7, .int (x7 &&& (x7 - 1))), (8, .int x8), (9, .int r1), (10, .int r2)]) dX6_tieSum_92 (by decide) rfl ?_
        refine E_sub (lv' := [(0, .ref 18), (1, .int x1), (2, .int x2), (3, .int x3), (4, .int x4), (5, .int r2), (6, .int r1), (7, .int (x7 &&& (x7 - 1))), (8, .int x8)]) [0, 1, 2, 3, 4, 5, 6, 7, 8] rfl ?_
        exact EvI.tr hB hE2
      · have hB := hB.2 c
        refine E_iload 10 dX6_tieSum_79 rfl ?_
        refine E_iload 5 dX6_tieSum_81 rfl ?_
        refine E_icmp_ge (tgt := 94) dX6_tieSum_83 (by decide) (fun c => ?_) (fun c => ?_)
        · have hB := hB.1 c
          refine E_sub (lv' := [(0, .ref 18), (1, .int x1), (2, .int x2), (3, .int x3), (4, .int x4), (5, .int x5), (6, .int x6), (7, .int (x7 &&& (x7 - 1))), (8, .int x8)]) [0, 1, 2, 3, 4, 5, 6, 7, 8] rfl ?_
          exact EvI.tr hB hE2
        · have hB := hB.2 c
          refine E_iload 10 dX6_tieSum_86 rfl ?_
          refine E_istore (lv' := [(0, .ref 18), (1, .int x1), (2, .int x2), (3, .int x3), (4, .int x4), (5, .int r2), (6, .int x6), (7, .int (x7 &&& (x7 - 1))), (8, .int x8), (9, .int r1), (10, .int r2)]) dX6_tieSum_88 (by decide) rfl ?_
          refine E_iload 9 dX6_tieSum_90 rfl ?_
          refine E_istore (lv' := [(0, .ref 18), (1, .int x1), (2, .int x2), (3, .int x3), (4, .int x4), (5, .int r2), (6, .int r1), (7, .int (x7 &&& (x7 - 1))), (8, .int x8), (9, .int r1), (10, .int r2)]) dX6_tieSum_92 (by decide) rfl ?_
          refine E_sub (lv' := [(0, .ref 18), (1, .int x1), (2, .int x2), (3, .int x3), (4, .int x4), (5, .int r2), (6, .int r1), (7, .int (x7 &&& (x7 - 1))), (8, .int x8)]) [0, 1, 2, 3, 4, 5, 6, 7, 8] rfl ?_
          exact EvI.tr hB hE2

set_option maxRecDepth 20000 in
set_option maxHeartbeats 2000000 in
theorem kX6_tieSum_94 {K : KT} {G : St} {Q : Int32 → St → Prop} {x1 : Int32} {x2 : Int32} {x3 : Int32} {x4 : Int32} {x5 : Int32} {x6 : Int32} {x7 : Int32} {x8 : Int32} (hL : Lay G.2.2) 
    (hB : EvI K mX6_tieSum 2 39 [(0, .ref 18), (1, .int x1), (2, .int x2), (3, .int x3), (4, .int x4), (5, .int x5), (6, .int x6), (7, .int x7), (8, .int (x8 + (-1)))] [] G Q) :
    EvI K mX6_tieSum 2 94 [(0, .ref 18), (1, .int x1), (2, .int x2), (3, .int x3), (4, .int x4), (5, .int x5), (6, .int x6), (7, .int x7), (8, .int x8)] [] G Q := by
  refine E_iinc (v := x8 + (-1)) (lv' := [(0, .ref 18), (1, .int x1), (2, .int x2), (3, .int x3), (4, .int x4), (5, .int x5), (6, .int x6), (7, .int x7), (8, .int (x8 + (-1)))]) 8 dX6_tieSum_94 rfl rfl (by decide) rfl ?_
  refine E_goto (tgt := 39) dX6_tieSum_97 (by decide) ?_
  exact EvI.tr hB rfl

set_option maxRecDepth 20000 in
set_option maxHeartbeats 2000000 in
theorem kX6_tieSum_119 {K : KT} {G : St} {Q : Int32 → St → Prop} {x1 : Int32} {x3 : Int32} {x4 : Int32} {xs0 : Int32} {xs1 : Int32} (hL : Lay G.2.2) 
    (hB : EvI K mX6_tieSum 2 13 [(0, .ref 18), (1, .int x1), (2, .int (xs0 ||| xs1)), (3, .int x3), (4, .int (x4 + (-1)))] [] G Q) :
    EvI K mX6_tieSum 2 119 [(0, .ref 18), (1, .int x1), (3, .int x3), (4, .int x4)] [.int xs1, .int xs0] G Q := by
  refine E_ior dX6_tieSum_119 ?_
  refine E_istore_n (lv' := [(0, .ref 18), (1, .int x1), (2, .int (xs0 ||| xs1)), (3, .int x3), (4, .int x4)]) dX6_tieSum_120 rfl (by decide) rfl ?_
  refine E_iinc (v := x4 + (-1)) (lv' := [(0, .ref 18), (1, .int x1), (2, .int (xs0 ||| xs1)), (3, .int x3), (4, .int (x4 + (-1)))]) 4 dX6_tieSum_121 rfl rfl (by decide) rfl ?_
  refine E_goto (tgt := 13) dX6_tieSum_124 (by decide) ?_
  exact EvI.tr hB rfl

set_option maxRecDepth 20000 in
set_option maxHeartbeats 2000000 in
theorem kX6_setPrice_0 {K : KT} {G : St} {Q : St → Prop} {x1 : Int32} (hL : Lay G.2.2) 
    (hB : vp_in x1 (sN G (sR G 18 9)) ∧ vp_in x1 (sN G (sR G 18 9)) ∧ EvI K mX6_tieSum 2 0 [(0, .ref 18), (1, .int (Int64.toInt32 ((sL G (sR G 18 9) (Int32.toNatClampNeg x1)) &&& 1073741823)))] [] G (fun r3 G3 => EvV K mX6_setPrice 3 37 [(0, .ref 18), (1, .int x1), (2, .int (Int64.toInt32 ((sL G (sR G 18 9) (Int32.toNatClampNeg x1)) &&& 1073741823))), (3, .int (Int64.toInt32 ((sL G (sR G 18 9) (Int32.toNatClampNeg x1)) >>> (Int32.toInt64 30 &&& 63)))), (4, .int r3), (5, .int r3), (6, .int 0)] [] G3 Q)) :
    EvV K mX6_setPrice 3 0 [(0, .ref 18), (1, .int x1)] [] G Q := by
  refine E_aload_n 0 dX6_setPrice_0 rfl rfl rfl ?_
  refine E_gR (j := sR G 18 9) fG_X6_35 rfl (lo_18 hL) rfl (lg_18_9 hL).2.1 dX6_setPrice_1 ?_
  refine E_iload_n 1 dX6_setPrice_4 rfl rfl ?_
  obtain ⟨qq1, hB⟩ := hB
  refine E_aL (p := Int32.toNatClampNeg x1) (v := sL G (sR G 18 9) (Int32.toNatClampNeg x1)) (lg_18_9 hL) qq1 rfl rfl dX6_setPrice_5 ?_
  refine E_ldc2 (v := 1073741823) tm_853 dX6_setPrice_6 ?_
  refine E_land dX6_setPrice_9 ?_
  refine E_l2i dX6_setPrice_10 rfl ?_
  refine E_istore_n (lv' := [(0, .ref 18), (1, .int x1), (2, .int (Int64.toInt32 ((sL G (sR G 18 9) (Int32.toNatClampNeg x1)) &&& 1073741823)))]) dX6_setPrice_11 rfl (by decide) rfl ?_
  refine E_aload_n 0 dX6_setPrice_12 rfl rfl rfl ?_
  refine E_gR (j := sR G 18 9) fG_X6_35 rfl (lo_18 hL) rfl (lg_18_9 hL).2.1 dX6_setPrice_13 ?_
  refine E_iload_n 1 dX6_setPrice_16 rfl rfl ?_
  obtain ⟨qq2, hB⟩ := hB
  refine E_aL (p := Int32.toNatClampNeg x1) (v := sL G (sR G 18 9) (Int32.toNatClampNeg x1)) (lg_18_9 hL) qq2 rfl rfl dX6_setPrice_17 ?_
  refine E_bipush (v := 30) dX6_setPrice_18 (by decide) ?_
  refine E_lshr dX6_setPrice_20 rfl ?_
  refine E_l2i dX6_setPrice_21 rfl ?_
  refine E_istore_n (lv' := [(0, .ref 18), (1, .int x1), (2, .int (Int64.toInt32 ((sL G (sR G 18 9) (Int32.toNatClampNeg x1)) &&& 1073741823))), (3, .int (Int64.toInt32 ((sL G (sR G 18 9) (Int32.toNatClampNeg x1)) >>> (Int32.toInt64 30 &&& 63))))]) dX6_setPrice_22 rfl (by decide) rfl ?_
  refine E_aload_n 0 dX6_setPrice_23 rfl rfl rfl ?_
  refine E_iload_n 2 dX6_setPrice_24 rfl rfl ?_
  refine E_cV (ci := 6) (as := [.int (Int64.toInt32 ((sL G (sR G 18 9) (Int32.toNatClampNeg x1)) &&& 1073741823))]) (st := []) cm_X6_tieSum cV_X6_136 ⟨_, _, rfl⟩ (by decide) (lo_18 hL) rfl rfl (by decide) (Nat.le_of_ble_eq_true rfl) (Nat.le_of_ble_eq_true rfl) dX6_setPrice_25 hB (fun r G3 hr => ?_)
  obtain ⟨r3, rfl, hE3, hB⟩ := hr
  have hL3 : Lay G3.2.2 := by rw [hE3]; exact hL
  have hE3 : G3.2.2 = G.2.2 := hE3
  show Ev K mX6_setPrice 3 28 [(0, .ref 18), (1, .int x1), (2, .int (Int64.toInt32 ((sL G (sR G 18 9) (Int32.toNatClampNeg x1)) &&& 1073741823))), (3, .int (Int64.toInt32 ((sL G (sR G 18 9) (Int32.toNatClampNeg x1)) >>> (Int32.toInt64 30 &&& 63))))] [.int r3] G3 _
  refine E_istore (lv' := [(0, .ref 18), (1, .int x1), (2, .int (Int64.toInt32 ((sL G (sR G 18 9) (Int32.toNatClampNeg x1)) &&& 1073741823))), (3, .int (Int64.toInt32 ((sL G (sR G 18 9) (Int32.toNatClampNeg x1)) >>> (Int32.toInt64 30 &&& 63)))), (4, .int r3)]) dX6_setPrice_28 (by decide) rfl ?_
  refine E_iload 4 dX6_setPrice_30 rfl ?_
  refine E_istore (lv' := [(0, .ref 18), (1, .int x1), (2, .int (Int64.toInt32 ((sL G (sR G 18 9) (Int32.toNatClampNeg x1)) &&& 1073741823))), (3, .int (Int64.toInt32 ((sL G (sR G 18 9) (Int32.toNatClampNeg x1)) >>> (Int32.toInt64 30 &&& 63)))), (4, .int r3), (5, .int r3)]) dX6_setPrice_32 (by decide) rfl ?_
  refine E_iconst (v := 0) dX6_setPrice_34 (by decide) ?_
  refine E_istore (lv' := [(0, .ref 18), (1, .int x1), (2, .int (Int64.toInt32 ((sL G (sR G 18 9) (Int32.toNatClampNeg x1)) &&& 1073741823))), (3, .int (Int64.toInt32 ((sL G (sR G 18 9) (Int32.toNatClampNeg x1)) >>> (Int32.toInt64 30 &&& 63)))), (4, .int r3), (5, .int r3), (6, .int 0)]) dX6_setPrice_35 (by decide) rfl ?_
  exact EvV.tr hB hE3

set_option maxRecDepth 20000 in
set_option maxHeartbeats 2000000 in
theorem kX6_setPrice_37 {K : KT} {G : St} {Q : St → Prop} {x1 : Int32} {x2 : Int32} {x3 : Int32} {x4 : Int32} {x5 : Int32} {x6 : Int32} (hL : Lay G.2.2) 
    (hB : (((sI G 18 13) ≤ x6 → EvI K mJ9_min_7cf53 0 0 [(0, .int x5), (1, .int 63)] [] G (fun r1 G1 => EvI K mJ9_max_7cf53 0 0 [(0, .int 0), (1, .int r1)] [] G1 (fun r2 G2 => (((sI G2 18 11) = 0 → EvV K mX6_setPrice 3 112 [(0, .ref 18), (1, .int x1), (2, .int x2), (3, .int x3), (4, .int x4), (5, .int r2)] [] G2 Q) ∧ (¬ (sI G2 18 11) = 0 → vp_in ((sI G2 18 11) - 1) 64 ∧ (((sI G2 25 (Int32.toNatClampNeg ((sI G2 18 11) - 1))) ≤ r2 → EvV K mX6_setPrice 3 143 [(0, .ref 18), (1, .int x1), (2, .int x2), (4, .int x4), (5, .int r2)] [] G2 Q) ∧ (¬ (sI G2 25 (Int32.toNatClampNeg ((sI G2 18 11) - 1))) ≤ r2 → EvV K mX6_setPrice 3 112 [(0, .ref 18), (1, .int x1), (2, .int x2), (3, .int x3), (4, .int x4), (5, .int r2)] [] G2 Q))))))) ∧ (¬ (sI G 18 13) ≤ x6 → EvI K mX0_holderIn 1 0 [(0, .ref 5), (1, .int x2), (2, .int x6)] [] G (fun r4 G4 => EvI K mX0_priceAt 0 0 [(0, .ref 5), (1, .int r4), (2, .int x6)] [] G4 (fun r5 G5 => EvV K mX6_setPrice 3 37 [(0, .ref 18), (1, .int x1), (2, .int x2), (3, .int x3), (4, .int x4), (5, .int (x5 + r5)), (6, .int (x6 + 1))] [] G5 Q))))) :
    EvV K mX6_setPrice 3 37 [(0, .ref 18), (1, .int x1), (2, .int x2), (3, .int x3), (4, .int x4), (5, .int x5), (6, .int x6)] [] G Q := by
  refine E_iload 6 dX6_setPrice_37 rfl ?_
  refine E_aload_n 0 dX6_setPrice_39 rfl rfl rfl ?_
  refine E_gI (v := sI G 18 13) fG_X6_50 rfl (lo_18 hL) rfl dX6_setPrice_40 ?_
  refine E_icmp_ge (tgt := 76) dX6_setPrice_43 (by decide) (fun c => ?_) (fun c => ?_)
  · have hB := hB.1 c
    refine E_iconst (v := 0) dX6_setPrice_76 (by decide) ?_
    refine E_iload 5 dX6_setPrice_77 rfl ?_
    refine E_bipush (v := 63) dX6_setPrice_79 (by decide) ?_
    refine E_callS (as := [.int x5, .int 63]) (st := [.int 0]) cm_J9_min_7cf53 cS_X6_146 rfl rfl (by decide) (Nat.le_of_ble_eq_true rfl) (Nat.le_of_ble_eq_true rfl) dX6_setPrice_81 hB (fun r G1 hr => ?_)
    obtain ⟨r1, rfl, hE1, hB⟩ := hr
    have hL1 : Lay G1.2.2 := by rw [hE1]; exact hL
    have hE1 : G1.2.2 = G.2.2 := hE1
    show Ev K mX6_setPrice 3 84 [(0, .ref 18), (1, .int x1), (2, .int x2), (3, .int x3), (4, .int x4), (5, .int x5), (6, .int x6)] [.int r1, .int 0] G1 _
    refine E_callS (as := [.int 0, .int r1]) (st := []) cm_J9_max_7cf53 cS_X6_151 rfl rfl (by decide) (Nat.le_of_ble_eq_true rfl) (Nat.le_of_ble_eq_true rfl) dX6_setPrice_84 hB (fun r G2 hr => ?_)
    obtain ⟨r2, rfl, hE2, hB⟩ := hr
    have hL2 : Lay G2.2.2 := by rw [hE2]; exact hL1
    have hE2 : G2.2.2 = G.2.2 := hE2.trans hE1
    show Ev K mX6_setPrice 3 87 [(0, .ref 18), (1, .int x1), (2, .int x2), (3, .int x3), (4, .int x4), (5, .int x5), (6, .int x6)] [.int r2] G2 _
    refine E_istore (lv' := [(0, .ref 18), (1, .int x1), (2, .int x2), (3, .int x3), (4, .int x4), (5, .int r2), (6, .int x6)]) dX6_setPrice_87 (by decide) rfl ?_
    refine E_aload_n 0 dX6_setPrice_89 rfl rfl rfl ?_
    refine E_gI (v := sI G2 18 11) fG_X6_63 rfl (lo_18 hL2) rfl dX6_setPrice_90 ?_
    refine E_if_eq (tgt := 112) dX6_setPrice_93 (by decide) (fun c => ?_) (fun c => ?_)
    · have hB := hB.1 c
      refine E_sub (lv' := [(0, .ref 18), (1, .int x1), (2, .int x2), (3, .int x3), (4, .int x4), (5, .int r2)]) [0, 1, 2, 3, 4, 5] rfl ?_
      exact EvV.tr hB hE2
    · have hB := hB.2 c
      refine E_iload 5 dX6_setPrice_96 rfl ?_
      refine E_aload_n 0 dX6_setPrice_98 rfl rfl rfl ?_
      refine E_gR (j := 25) fG_X6_32 rfl (lo_18 hL2) (lr_18_8 hL2) (by decide) dX6_setPrice_99 ?_
      refine E_aload_n 0 dX6_setPrice_102 rfl rfl rfl ?_
      refine E_gI (v := sI G2 18 11) fG_X6_63 rfl (lo_18 hL2) rfl dX6_setPrice_103 ?_
      refine E_iconst (v := 1) dX6_setPrice_106 (by decide) ?_
      refine E_isub dX6_setPrice_107 ?_
      obtain ⟨qq3, hB⟩ := hB
      refine E_aI (p := Int32.toNatClampNeg ((sI G2 18 11) - 1)) (v := sI G2 25 (Int32.toNatClampNeg ((sI G2 18 11) - 1))) (la_25 hL2) qq3 rfl rfl dX6_setPrice_108 ?_
      refine E_icmp_ge (tgt := 143) dX6_setPrice_109 (by decide) (fun c => ?_) (fun c => ?_)
      · have hB := hB.1 c
        refine E_sub (lv' := [(0, .ref 18), (1, .int x1), (2, .int x2), (4, .int x4), (5, .int r2)]) [0, 1, 2, 4, 5] rfl ?_
        exact EvV.tr hB hE2
      · have hB := hB.2 c
        refine E_sub (lv' := [(0, .ref 18), (1, .int x1), (2, .int x2), (3, .int x3), (4, .int x4), (5, .int r2)]) [0, 1, 2, 3, 4, 5] rfl ?_
        exact EvV.tr hB hE2
  · have hB := hB.2 c
    refine E_iload 5 dX6_setPrice_46 rfl ?_
    refine E_aload_n 0 dX6_setPrice_48 rfl rfl rfl ?_
    refine E_gR (j := 5) fG_X6_46 rfl (lo_18 hL) (lr_18_1 hL) (by decide) dX6_setPrice_49 ?_
    refine E_aload_n 0 dX6_setPrice_52 rfl rfl rfl ?_
    refine E_gR (j := 5) fG_X6_46 rfl (lo_18 hL) (lr_18_1 hL) (by decide) dX6_setPrice_53 ?_
    refine E_iload_n 2 dX6_setPrice_56 rfl rfl ?_
    refine E_iload 6 dX6_setPrice_57 rfl ?_
    refine E_cV (ci := 0) (as := [.int x2, .int x6]) (st := [.ref 5, .int x5]) cm_X0_holderIn cV_X6_139 ⟨_, _, rfl⟩ (by decide) (lo_5 hL) rfl rfl (by decide) (Nat.le_of_ble_eq_true rfl) (Nat.le_of_ble_eq_true rfl) dX6_setPrice_59 hB (fun r G4 hr => ?_)
    obtain ⟨r4, rfl, hE4, hB⟩ := hr
    have hL4 : Lay G4.2.2 := by rw [hE4]; exact hL
    have hE4 : G4.2.2 = G.2.2 := hE4
    show Ev K mX6_setPrice 3 62 [(0, .ref 18), (1, .int x1), (2, .int x2), (3, .int x3), (4, .int x4), (5, .int x5), (6, .int x6)] [.int r4, .ref 5, .int x5] G4 _
    refine E_iload 6 dX6_setPrice_62 rfl ?_
    refine E_cV (ci := 0) (as := [.int r4, .int x6]) (st := [.int x5]) cm_X0_priceAt cV_X6_143 ⟨_, _, rfl⟩ (by decide) (lo_5 hL4) rfl rfl (by decide) (Nat.le_of_ble_eq_true rfl) (Nat.le_of_ble_eq_true rfl) dX6_setPrice_64 hB (fun r G5 hr => ?_)
    obtain ⟨r5, rfl, hE5, hB⟩ := hr
    have hL5 : Lay G5.2.2 := by rw [hE5]; exact hL4
    have hE5 : G5.2.2 = G.2.2 := hE5.trans hE4
    show Ev K mX6_setPrice 3 67 [(0, .ref 18), (1, .int x1), (2, .int x2), (3, .int x3), (4, .int x4), (5, .int x5), (6, .int x6)] [.int r5, .int x5] G5 _
    refine E_iadd dX6_setPrice_67 ?_
    refine E_istore (lv' := [(0, .ref 18), (1, .int x1), (2, .int x2), (3, .int x3), (4, .int x4), (5, .int (x5 + r5)), (6, .int x6)]) dX6_setPrice_68 (by decide) rfl ?_
    refine E_iinc (v := x6 + 1) (lv' := [(0, .ref 18), (1, .int x1), (2, .int x2), (3, .int x3), (4, .int x4), (5, .int (x5 + r5)), (6, .int (x6 + 1))]) 6 dX6_setPrice_70 rfl rfl (by decide) rfl ?_
    refine E_goto (tgt := 37) dX6_setPrice_73 (by decide) ?_
    exact EvV.tr hB hE5

set_option maxRecDepth 20000 in
set_option maxHeartbeats 2000000 in
theorem kX6_setPrice_112 {K : KT} {G : St} {Q : St → Prop} {x1 : Int32} {x2 : Int32} {x3 : Int32} {x4 : Int32} {x5 : Int32} (hL : Lay G.2.2) 
    (hB : vp_in (sI G 18 11) 64 ∧ vp_in (sI G 18 11) 64 ∧ EvV K mX6_setPrice 3 143 [(0, .ref 18), (1, .int x1), (2, .int x2), (4, .int x4), (5, .int x5)] [] (uI (uI (uI G 24 (Int32.toNatClampNeg (sI G 18 11)) x3) 25 (Int32.toNatClampNeg (sI G 18 11)) x5) 18 11 ((sI G 18 11) + 1)) Q) :
    EvV K mX6_setPrice 3 112 [(0, .ref 18), (1, .int x1), (2, .int x2), (3, .int x3), (4, .int x4), (5, .int x5)] [] G Q := by
  refine E_aload_n 0 dX6_setPrice_112 rfl rfl rfl ?_
  refine E_gR (j := 24) fG_X6_29 rfl (lo_18 hL) (lr_18_7 hL) (by decide) dX6_setPrice_113 ?_
  refine E_aload_n 0 dX6_setPrice_116 rfl rfl rfl ?_
  refine E_gI (v := sI G 18 11) fG_X6_63 rfl (lo_18 hL) rfl dX6_setPrice_117 ?_
  refine E_iload_n 3 dX6_setPrice_120 rfl rfl ?_
  obtain ⟨qq1, hB⟩ := hB
  refine E_sI (p := Int32.toNatClampNeg (sI G 18 11)) (la_24 hL) qq1 rfl dX6_setPrice_121 ?_
  refine E_aload_n 0 dX6_setPrice_122 rfl rfl rfl ?_
  refine E_gR (j := 25) fG_X6_32 rfl (lo_18 hL) (lr_18_8 hL) (by decide) dX6_setPrice_123 ?_
  refine E_aload_n 0 dX6_setPrice_126 rfl rfl rfl ?_
  refine E_gI (v := sI G 18 11) fG_X6_63 rfl (lo_18 hL) rfl dX6_setPrice_127 ?_
  refine E_iload 5 dX6_setPrice_130 rfl ?_
  obtain ⟨qq2, hB⟩ := hB
  refine E_sI (p := Int32.toNatClampNeg (sI G 18 11)) (la_25 hL) qq2 rfl dX6_setPrice_132 ?_
  refine E_aload_n 0 dX6_setPrice_133 rfl rfl rfl ?_
  refine E_dup dX6_setPrice_134 rfl ?_
  refine E_gI (v := sI G 18 11) fG_X6_63 rfl (lo_18 hL) rfl dX6_setPrice_135 ?_
  refine E_iconst (v := 1) dX6_setPrice_138 (by decide) ?_
  refine E_iadd dX6_setPrice_139 ?_
  refine E_pI fP_X6_63 rfl (lo_18 hL) dX6_setPrice_140 ?_
  refine E_sub (lv' := [(0, .ref 18), (1, .int x1), (2, .int x2), (4, .int x4), (5, .int x5)]) [0, 1, 2, 4, 5] rfl ?_
  exact EvV.tr hB rfl

set_option maxRecDepth 20000 in
set_option maxHeartbeats 2000000 in
theorem kX6_setPrice_143 {K : KT} {G : St} {Q : St → Prop} {x1 : Int32} {x2 : Int32} {x4 : Int32} {x5 : Int32} (hL : Lay G.2.2) 
    (hB : ∀ v1 : Int64, v1 = ((Int32.toInt64 x5) <<< (Int32.toInt64 36 &&& 63)) ||| ((Int32.toInt64 x4) <<< (Int32.toInt64 30 &&& 63)) → vp_in x1 (sN G (sR G 18 9)) ∧ ∀ G3 : St, G3 = (uL G (sR G 18 9) (Int32.toNatClampNeg x1) (v1 ||| (Int32.toInt64 x2))) → Q G3) :
    EvV K mX6_setPrice 3 143 [(0, .ref 18), (1, .int x1), (2, .int x2), (4, .int x4), (5, .int x5)] [] G Q := by
  refine E_aload_n 0 dX6_setPrice_143 rfl rfl rfl ?_
  refine E_gR (j := sR G 18 9) fG_X6_35 rfl (lo_18 hL) rfl (lg_18_9 hL).2.1 dX6_setPrice_144 ?_
  refine E_iload_n 1 dX6_setPrice_147 rfl rfl ?_
  refine E_iload 4 dX6_setPrice_148 rfl ?_
  refine E_i2l dX6_setPrice_150 rfl ?_
  refine E_bipush (v := 36) dX6_setPrice_151 (by decide) ?_
  refine E_lshl dX6_setPrice_153 rfl ?_
  refine E_iload 3 dX6_setPrice_154 rfl ?_
  refine E_i2l dX6_setPrice_156 rfl ?_
  refine E_bipush (v := 30) dX6_setPrice_157 (by decide) ?_
  refine E_lshl dX6_setPrice_159 rfl ?_
  refine E_lor dX6_setPrice_160 ?_
  refine E_topl (fun v1 ev1 => ?_)
  have hB := hB v1 ev1
  refine E_iload_n 2 dX6_setPrice_161 rfl rfl ?_
  refine E_i2l dX6_setPrice_162 rfl ?_
  refine E_lor dX6_setPrice_163 ?_
  obtain ⟨qq2, hB⟩ := hB
  refine E_sL (p := Int32.toNatClampNeg x1) (lg_18_9 hL) qq2 rfl dX6_setPrice_164 ?_
  refine E_nmG (fun G3 eG3 => ?_)
  have hB := hB G3 eG3
  have hL3 : Lay G3.2.2 := by rw [eG3]; exact hL
  have hE3 : G3.2.2 = G.2.2 := by rw [eG3]; exact rfl
  exact E_vret rfl dX6_setPrice_165 ⟨rfl, hE3, hB⟩

set_option maxRecDepth 20000 in
set_option maxHeartbeats 2000000 in
theorem kX6_order_0 {K : KT} {G : St} {Q : St → Prop}  (hL : Lay G.2.2) 
    (hB : (((sI G 18 17) ≤ (nI (sN G (sR G 18 10))) → EvVa K mX6_order 1 23 [(0, .ref 18)] [] G Q) ∧ (¬ (sI G 18 17) ≤ (nI (sN G (sR G 18 10))) → (¬ (nI (sN G (sR G 18 9))) < 0) ∧ (Int32.toNatClampNeg (nI (sN G (sR G 18 9)))) * componentBytes .long ≤ 536870912 ∧ EvVa K mX6_order 1 23 [(0, .ref 18)] [] (uR (uN G 101 (Int32.toNatClampNeg (nI (sN G (sR G 18 9))))) 18 10 (nx G)) Q))) :
    EvVa K mX6_order 1 0 [(0, .ref 18)] [] G Q := by
  refine E_aload_n 0 dX6_order_0 rfl rfl rfl ?_
  refine E_gR (j := sR G 18 10) fG_X6_39 rfl (lo_18 hL) rfl (lg_18_10 hL).2.1 dX6_order_1 ?_
  refine E_len (v := nI (sN G (sR G 18 10))) (lg_18_10 hL) (by decide) rfl dX6_order_4 ?_
  refine E_aload_n 0 dX6_order_5 rfl rfl rfl ?_
  refine E_gI (v := sI G 18 17) fG_X6_60 rfl (lo_18 hL) rfl dX6_order_6 ?_
  refine E_icmp_ge (tgt := 23) dX6_order_9 (by decide) (fun c => ?_) (fun c => ?_)
  · have hB := hB.1 c
    exact hB
  · have hB := hB.2 c
    refine E_aload_n 0 dX6_order_12 rfl rfl rfl ?_
    refine E_aload_n 0 dX6_order_13 rfl rfl rfl ?_
    refine E_gR (j := sR G 18 9) fG_X6_35 rfl (lo_18 hL) rfl (lg_18_9 hL).2.1 dX6_order_14 ?_
    refine E_len (v := nI (sN G (sR G 18 9))) (lg_18_9 hL) (by decide) rfl dX6_order_17 ?_
    obtain ⟨qq1, hB⟩ := hB
    obtain ⟨qq2, hB⟩ := hB
    refine E_newa (atype := .long) (ty := .long) (t := 1) (N := Int32.toNatClampNeg (nI (sN G (sR G 18 9)))) tm_104 rfl (Or.inr (Or.inl ⟨rfl, rfl⟩)) qq1 rfl qq2 dX6_order_18 ?_
    refine E_pR fP_X6_39 rfl (ob_uN (lo_18 hL)) (nx_pos hL) dX6_order_20 ?_
    exact hB

set_option maxRecDepth 20000 in
set_option maxHeartbeats 2000000 in
theorem kX6_order_23 {K : KT} {G : St} {Q : St → Prop}  (hL : Lay G.2.2) 
    (hB : EvV K mJ7_fill_53178 0 0 [(0, .ref 23), (1, .int 0)] [] G (fun G1 => EvVa K mX6_order 1 33 [(0, .ref 18), (1, .int 0)] [] G1 Q)) :
    EvVa K mX6_order 1 23 [(0, .ref 18)] [] G Q := by
  refine E_aload_n 0 dX6_order_23 rfl rfl rfl ?_
  refine E_gR (j := 23) fG_X6_26 rfl (lo_18 hL) (lr_18_6 hL) (by decide) dX6_order_24 ?_
  refine E_iconst (v := 0) dX6_order_27 (by decide) ?_
  refine E_callS (as := [.ref 23, .int 0]) (st := []) cm_J7_fill_53178 cS_X6_160 rfl rfl (by decide) (Nat.le_of_ble_eq_true rfl) (Nat.le_of_ble_eq_true rfl) dX6_order_28 hB (fun r G1 hr => ?_)
  obtain ⟨rfl, hE1, hB⟩ := hr
  have hL1 : Lay G1.2.2 := by rw [hE1]; exact hL
  show Ev K mX6_order 1 31 [(0, .ref 18)] [] G1 _
  refine E_iconst (v := 0) dX6_order_31 (by decide) ?_
  refine E_istore_n (lv' := [(0, .ref 18), (1, .int 0)]) dX6_order_32 rfl (by decide) rfl ?_
  exact hB

set_option maxRecDepth 20000 in
set_option maxHeartbeats 2000000 in
theorem kX6_order_33 {K : KT} {G : St} {Q : St → Prop} {x1 : Int32} (hL : Lay G.2.2) 
    (hB : (((sI G 18 17) ≤ x1 → EvVa K mX6_order 1 70 [(0, .ref 18), (1, .int 0)] [] G Q) ∧ (¬ (sI G 18 17) ≤ x1 → vp_in x1 (sN G (sR G 18 9)) ∧ ∀ v2 : Int32, v2 = (Int64.toInt32 ((sL G (sR G 18 9) (Int32.toNatClampNeg x1)) >>> (Int32.toInt64 36 &&& 63))) + 1 → vp_in v2 65 ∧ vp_in v2 65 ∧ EvVa K mX6_order 1 33 [(0, .ref 18), (1, .int (x1 + 1))] [] (uI G 23 (Int32.toNatClampNeg v2) ((sI G 23 (Int32.toNatClampNeg v2)) + 1)) Q))) :
    EvVa K mX6_order 1 33 [(0, .ref 18), (1, .int x1)] [] G Q := by
  refine E_iload_n 1 dX6_order_33 rfl rfl ?_
  refine E_aload_n 0 dX6_order_34 rfl rfl rfl ?_
  refine E_gI (v := sI G 18 17) fG_X6_60 rfl (lo_18 hL) rfl dX6_order_35 ?_
  refine E_icmp_ge (tgt := 68) dX6_order_38 (by decide) (fun c => ?_) (fun c => ?_)
  · have hB := hB.1 c
    refine E_iconst (v := 0) dX6_order_68 (by decide) ?_
    refine E_istore_n (lv' := [(0, .ref 18), (1, .int 0)]) dX6_order_69 rfl (by decide) rfl ?_
    exact hB
  · have hB := hB.2 c
    refine E_aload_n 0 dX6_order_41 rfl rfl rfl ?_
    refine E_gR (j := 23) fG_X6_26 rfl (lo_18 hL) (lr_18_6 hL) (by decide) dX6_order_42 ?_
    refine E_aload_n 0 dX6_order_45 rfl rfl rfl ?_
    refine E_gR (j := sR G 18 9) fG_X6_35 rfl (lo_18 hL) rfl (lg_18_9 hL).2.1 dX6_order_46 ?_
    refine E_iload_n 1 dX6_order_49 rfl rfl ?_
    obtain ⟨qq1, hB⟩ := hB
    refine E_aL (p := Int32.toNatClampNeg x1) (v := sL G (sR G 18 9) (Int32.toNatClampNeg x1)) (lg_18_9 hL) qq1 rfl rfl dX6_order_50 ?_
    refine E_bipush (v := 36) dX6_order_51 (by decide) ?_
    refine E_lshr dX6_order_53 rfl ?_
    refine E_l2i dX6_order_54 rfl ?_
    refine E_iconst (v := 1) dX6_order_55 (by decide) ?_
    refine E_iadd dX6_order_56 ?_
    refine E_topi (fun v2 ev2 => ?_)
    have hB := hB v2 ev2
    refine E_dup2 dX6_order_57 rfl rfl ?_
    obtain ⟨qq3, hB⟩ := hB
    refine E_aI (p := Int32.toNatClampNeg v2) (v := sI G 23 (Int32.toNatClampNeg v2)) (la_23 hL) qq3 rfl rfl dX6_order_58 ?_
    refine E_iconst (v := 1) dX6_order_59 (by decide) ?_
    refine E_iadd dX6_order_60 ?_
    obtain ⟨qq4, hB⟩ := hB
    refine E_sI (p := Int32.toNatClampNeg v2) (la_23 hL) qq4 rfl dX6_order_61 ?_
    refine E_iinc (v := x1 + 1) (lv' := [(0, .ref 18), (1, .int (x1 + 1))]) 1 dX6_order_62 rfl rfl (by decide) rfl ?_
    refine E_goto (tgt := 33) dX6_order_65 (by decide) ?_
    exact hB

set_option maxRecDepth 20000 in
set_option maxHeartbeats 2000000 in
theorem kX6_order_70 {K : KT} {G : St} {Q : St → Prop} {x1 : Int32} (hL : Lay G.2.2) 
    (hB : ((64 ≤ x1 → EvVa K mX6_order 1 101 [(0, .ref 18), (1, .int 0)] [] G Q) ∧ (¬ 64 ≤ x1 → vp_in (x1 + 1) 65 ∧ vp_in x1 65 ∧ vp_in (x1 + 1) 65 ∧ EvVa K mX6_order 1 70 [(0, .ref 18), (1, .int (x1 + 1))] [] (uI G 23 (Int32.toNatClampNeg (x1 + 1)) ((sI G 23 (Int32.toNatClampNeg (x1 + 1))) + (sI G 23 (Int32.toNatClampNeg x1)))) Q))) :
    EvVa K mX6_order 1 70 [(0, .ref 18), (1, .int x1)] [] G Q := by
  refine E_iload_n 1 dX6_order_70 rfl rfl ?_
  refine E_bipush (v := 64) dX6_order_71 (by decide) ?_
  refine E_icmp_ge (tgt := 99) dX6_order_73 (by decide) (fun c => ?_) (fun c => ?_)
  · have hB := hB.1 c
    refine E_iconst (v := 0) dX6_order_99 (by decide) ?_
    refine E_istore_n (lv' := [(0, .ref 18), (1, .int 0)]) dX6_order_100 rfl (by decide) rfl ?_
    exact hB
  · have hB := hB.2 c
    refine E_aload_n 0 dX6_order_76 rfl rfl rfl ?_
    refine E_gR (j := 23) fG_X6_26 rfl (lo_18 hL) (lr_18_6 hL) (by decide) dX6_order_77 ?_
    refine E_iload_n 1 dX6_order_80 rfl rfl ?_
    refine E_iconst (v := 1) dX6_order_81 (by decide) ?_
    refine E_iadd dX6_order_82 ?_
    refine E_dup2 dX6_order_83 rfl rfl ?_
    obtain ⟨qq1, hB⟩ := hB
    refine E_aI (p := Int32.toNatClampNeg (x1 + 1)) (v := sI G 23 (Int32.toNatClampNeg (x1 + 1))) (la_23 hL) qq1 rfl rfl dX6_order_84 ?_
    refine E_aload_n 0 dX6_order_85 rfl rfl rfl ?_
    refine E_gR (j := 23) fG_X6_26 rfl (lo_18 hL) (lr_18_6 hL) (by decide) dX6_order_86 ?_
    refine E_iload_n 1 dX6_order_89 rfl rfl ?_
    obtain ⟨qq2, hB⟩ := hB
    refine E_aI (p := Int32.toNatClampNeg x1) (v := sI G 23 (Int32.toNatClampNeg x1)) (la_23 hL) qq2 rfl rfl dX6_order_90 ?_
    refine E_iadd dX6_order_91 ?_
    obtain ⟨qq3, hB⟩ := hB
    refine E_sI (p := Int32.toNatClampNeg (x1 + 1)) (la_23 hL) qq3 rfl dX6_order_92 ?_
    refine E_iinc (v := x1 + 1) (lv' := [(0, .ref 18), (1, .int (x1 + 1))]) 1 dX6_order_93 rfl rfl (by decide) rfl ?_
    refine E_goto (tgt := 70) dX6_order_96 (by decide) ?_
    exact hB

set_option maxRecDepth 20000 in
set_option maxHeartbeats 2000000 in
theorem kX6_order_101 {K : KT} {G : St} {Q : St → Prop} {x1 : Int32} (hL : Lay G.2.2) 
    (hB : (((sI G 18 17) ≤ x1 → Q G) ∧ (¬ (sI G 18 17) ≤ x1 → vp_in x1 (sN G (sR G 18 9)) ∧ vp_in (Int64.toInt32 ((sL G (sR G 18 9) (Int32.toNatClampNeg x1)) >>> (Int32.toInt64 36 &&& 63))) 65 ∧ ∀ v3 : Int32, v3 = sI G 23 (Int32.toNatClampNeg (Int64.toInt32 ((sL G (sR G 18 9) (Int32.toNatClampNeg x1)) >>> (Int32.toInt64 36 &&& 63)))) → vp_in x1 (sN G (sR G 18 9)) ∧ vp_in v3 (sN G (sR G 18 10)) ∧ ∀ G6 : St, G6 = (uL G (sR G 18 10) (Int32.toNatClampNeg v3) (sL G (sR G 18 9) (Int32.toNatClampNeg x1))) → vp_in (Int64.toInt32 ((sL G (sR G 18 9) (Int32.toNatClampNeg x1)) >>> (Int32.toInt64 36 &&& 63))) 65 ∧ ∀ v8 : Int32, v8 = sI G6 23 (Int32.toNatClampNeg (Int64.toInt32 ((sL G (sR G 18 9) (Int32.toNatClampNeg x1)) >>> (Int32.toInt64 36 &&& 63)))) → vp_in (Int64.toInt32 ((sL G (sR G 18 9) (Int32.toNatClampNeg x1)) >>> (Int32.toInt64 36 &&& 63))) 65 ∧ EvVa K mX6_order 1 101 [(0, .ref 18), (1, .int (x1 + 1))] [] (uI G6 23 (Int32.toNatClampNeg (Int64.toInt32 ((sL G (sR G 18 9) (Int32.toNatClampNeg x1)) >>> (Int32.toInt64 36 &&& 63)))) (v8 + 1)) Q))) :
    EvVa K mX6_order 1 101 [(0, .ref 18), (1, .int x1)] [] G Q := by
  refine E_iload_n 1 dX6_order_101 rfl rfl ?_
  refine E_aload_n 0 dX6_order_102 rfl rfl rfl ?_
  refine E_gI (v := sI G 18 17) fG_X6_60 rfl (lo_18 hL) rfl dX6_order_103 ?_
  refine E_icmp_ge (tgt := 153) dX6_order_106 (by decide) (fun c => ?_) (fun c => ?_)
  · have hB := hB.1 c
    exact E_vret rfl dX6_order_153 ⟨rfl, hB⟩
  · have hB := hB.2 c
    refine E_aload_n 0 dX6_order_109 rfl rfl rfl ?_
    refine E_gR (j := sR G 18 9) fG_X6_35 rfl (lo_18 hL) rfl (lg_18_9 hL).2.1 dX6_order_110 ?_
    refine E_iload_n 1 dX6_order_113 rfl rfl ?_
    obtain ⟨qq1, hB⟩ := hB
    refine E_aL (p := Int32.toNatClampNeg x1) (v := sL G (sR G 18 9) (Int32.toNatClampNeg x1)) (lg_18_9 hL) qq1 rfl rfl dX6_order_114 ?_
    refine E_bipush (v := 36) dX6_order_115 (by decide) ?_
    refine E_lshr dX6_order_117 rfl ?_
    refine E_l2i dX6_order_118 rfl ?_
    refine E_istore_n (lv' := [(0, .ref 18), (1, .int x1), (2, .int (Int64.toInt32 ((sL G (sR G 18 9) (Int32.toNatClampNeg x1)) >>> (Int32.toInt64 36 &&& 63))))]) dX6_order_119 rfl (by decide) rfl ?_
    refine E_aload_n 0 dX6_order_120 rfl rfl rfl ?_
    refine E_gR (j := sR G 18 10) fG_X6_39 rfl (lo_18 hL) rfl (lg_18_10 hL).2.1 dX6_order_121 ?_
    refine E_aload_n 0 dX6_order_124 rfl rfl rfl ?_
    refine E_gR (j := 23) fG_X6_26 rfl (lo_18 hL) (lr_18_6 hL) (by decide) dX6_order_125 ?_
    refine E_iload_n 2 dX6_order_128 rfl rfl ?_
    obtain ⟨qq2, hB⟩ := hB
    refine E_aI (p := Int32.toNatClampNeg (Int64.toInt32 ((sL G (sR G 18 9) (Int32.toNatClampNeg x1)) >>> (Int32.toInt64 36 &&& 63)))) (v := sI G 23 (Int32.toNatClampNeg (Int64.toInt32 ((sL G (sR G 18 9) (Int32.toNatClampNeg x1)) >>> (Int32.toInt64 36 &&& 63))))) (la_23 hL) qq2 rfl rfl dX6_order_129 ?_
    refine E_topi (fun v3 ev3 => ?_)
    have hB := hB v3 ev3
    refine E_aload_n 0 dX6_order_130 rfl rfl rfl ?_
    refine E_gR (j := sR G 18 9) fG_X6_35 rfl (lo_18 hL) rfl (lg_18_9 hL).2.1 dX6_order_131 ?_
    refine E_iload_n 1 dX6_order_134 rfl rfl ?_
    obtain ⟨qq4, hB⟩ := hB
    refine E_aL (p := Int32.toNatClampNeg x1) (v := sL G (sR G 18 9) (Int32.toNatClampNeg x1)) (lg_18_9 hL) qq4 rfl rfl dX6_order_135 ?_
    obtain ⟨qq5, hB⟩ := hB
    refine E_sL (p := Int32.toNatClampNeg v3) (lg_18_10 hL) qq5 rfl dX6_order_136 ?_
    refine E_nmG (fun G6 eG6 => ?_)
    have hB := hB G6 eG6
    have hL6 : Lay G6.2.2 := by rw [eG6]; exact hL
    refine E_aload_n 0 dX6_order_137 rfl rfl rfl ?_
    refine E_gR (j := 23) fG_X6_26 rfl (lo_18 hL6) (lr_18_6 hL6) (by decide) dX6_order_138 ?_
    refine E_iload_n 2 dX6_order_141 rfl rfl ?_
    refine E_dup2 dX6_order_142 rfl rfl ?_
    obtain ⟨qq7, hB⟩ := hB
    refine E_aI (p := Int32.toNatClampNeg (Int64.toInt32 ((sL G (sR G 18 9) (Int32.toNatClampNeg x1)) >>> (Int32.toInt64 36 &&& 63)))) (v := sI G6 23 (Int32.toNatClampNeg (Int64.toInt32 ((sL G (sR G 18 9) (Int32.toNatClampNeg x1)) >>> (Int32.toInt64 36 &&& 63))))) (la_23 hL6) qq7 rfl rfl dX6_order_143 ?_
    refine E_topi (fun v8 ev8 => ?_)
    have hB := hB v8 ev8
    refine E_iconst (v := 1) dX6_order_144 (by decide) ?_
    refine E_iadd dX6_order_145 ?_
    obtain ⟨qq9, hB⟩ := hB
    refine E_sI (p := Int32.toNatClampNeg (Int64.toInt32 ((sL G (sR G 18 9) (Int32.toNatClampNeg x1)) >>> (Int32.toInt64 36 &&& 63)))) (la_23 hL6) qq9 rfl dX6_order_146 ?_
    refine E_iinc (v := x1 + 1) (lv' := [(0, .ref 18), (1, .int (x1 + 1)), (2, .int (Int64.toInt32 ((sL G (sR G 18 9) (Int32.toNatClampNeg x1)) >>> (Int32.toInt64 36 &&& 63))))]) 1 dX6_order_147 rfl rfl (by decide) rfl ?_
    refine E_goto (tgt := 101) dX6_order_150 (by decide) ?_
    refine E_sub (lv' := [(0, .ref 18), (1, .int (x1 + 1))]) [0, 1] rfl ?_
    exact hB

set_option maxRecDepth 20000 in
set_option maxHeartbeats 2000000 in
theorem kX6_run_0 {K : KT} {G : St} {Q : St → Prop} {x1 : Int32} {x2 : Int32} {x3 : Int32} (hL : Lay G.2.2) 
    (hB : EvVa K mX6_run 9 51 [(0, .ref 18), (1, .int x1), (2, .int x2), (4, .int 0)] [] (uI (uI (uI (uI (uI (uI (uI (uI G 18 13 x3) 18 14 ((1 <<< (x3 &&& 31)) - 1)) 18 16 0) 18 17 0) 18 11 0) 18 15 0) 20 0 0) 22 0 0) Q) :
    EvVa K mX6_run 9 0 [(0, .ref 18), (1, .int x1), (2, .int x2), (3, .int x3)] [] G Q := by
  refine E_aload_n 0 dX6_run_0 rfl rfl rfl ?_
  refine E_iload_n 3 dX6_run_1 rfl rfl ?_
  refine E_pI fP_X6_50 rfl (lo_18 hL) dX6_run_2 ?_
  refine E_aload_n 0 dX6_run_5 rfl rfl rfl ?_
  refine E_iconst (v := 1) dX6_run_6 (by decide) ?_
  refine E_iload_n 3 dX6_run_7 rfl rfl ?_
  refine E_ishl dX6_run_8 ?_
  refine E_iconst (v := 1) dX6_run_9 (by decide) ?_
  refine E_isub dX6_run_10 ?_
  refine E_pI fP_X6_54 rfl (lo_18 hL) dX6_run_11 ?_
  refine E_aload_n 0 dX6_run_14 rfl rfl rfl ?_
  refine E_iconst (v := 0) dX6_run_15 (by decide) ?_
  refine E_pI fP_X6_57 rfl (lo_18 hL) dX6_run_16 ?_
  refine E_aload_n 0 dX6_run_19 rfl rfl rfl ?_
  refine E_iconst (v := 0) dX6_run_20 (by decide) ?_
  refine E_pI fP_X6_60 rfl (lo_18 hL) dX6_run_21 ?_
  refine E_aload_n 0 dX6_run_24 rfl rfl rfl ?_
  refine E_iconst (v := 0) dX6_run_25 (by decide) ?_
  refine E_pI fP_X6_63 rfl (lo_18 hL) dX6_run_26 ?_
  refine E_aload_n 0 dX6_run_29 rfl rfl rfl ?_
  refine E_iconst (v := 0) dX6_run_30 (by decide) ?_
  refine E_pI fP_X6_66 rfl (lo_18 hL) dX6_run_31 ?_
  refine E_aload_n 0 dX6_run_34 rfl rfl rfl ?_
  refine E_gR (j := 20) fG_X6_17 rfl (lo_18 hL) (lr_18_3 hL) (by decide) dX6_run_35 ?_
  refine E_iconst (v := 0) dX6_run_38 (by decide) ?_
  refine E_iconst (v := 0) dX6_run_39 (by decide) ?_
  refine E_sI (p := 0) (la_20 hL) (by unfold vp_in; decide) (by decide) dX6_run_40 ?_
  refine E_aload_n 0 dX6_run_41 rfl rfl rfl ?_
  refine E_gR (j := 22) fG_X6_23 rfl (lo_18 hL) (lr_18_5 hL) (by decide) dX6_run_42 ?_
  refine E_iconst (v := 0) dX6_run_45 (by decide) ?_
  refine E_iconst (v := 0) dX6_run_46 (by decide) ?_
  refine E_sI (p := 0) (la_22 hL) (by unfold vp_in; decide) (by decide) dX6_run_47 ?_
  refine E_iconst (v := 0) dX6_run_48 (by decide) ?_
  refine E_istore (lv' := [(0, .ref 18), (1, .int x1), (2, .int x2), (3, .int x3), (4, .int 0)]) dX6_run_49 (by decide) rfl ?_
  refine E_sub (lv' := [(0, .ref 18), (1, .int x1), (2, .int x2), (4, .int 0)]) [0, 1, 2, 4] rfl ?_
  exact hB

set_option maxRecDepth 20000 in
set_option maxHeartbeats 2000000 in
theorem kX6_run_51 {K : KT} {G : St} {Q : St → Prop} {x1 : Int32} {x2 : Int32} {x4 : Int32} (hL : Lay G.2.2) 
    (hB : ((30 ≤ x4 → EvVa K mX6_run 9 78 [(0, .ref 18), (1, .int x1), (2, .int x2), (4, .int 1)] [] G Q) ∧ (¬ 30 ≤ x4 → vp_in x4 30 ∧ EvVa K mX6_run 9 51 [(0, .ref 18), (1, .int x1), (2, .int x2), (4, .int (x4 + 1))] [] (uI G 21 (Int32.toNatClampNeg x4) (1 <<< (x4 &&& 31))) Q))) :
    EvVa K mX6_run 9 51 [(0, .ref 18), (1, .int x1), (2, .int x2), (4, .int x4)] [] G Q := by
  refine E_iload 3 dX6_run_51 rfl ?_
  refine E_bipush (v := 30) dX6_run_53 (by decide) ?_
  refine E_icmp_ge (tgt := 75) dX6_run_55 (by decide) (fun c => ?_) (fun c => ?_)
  · have hB := hB.1 c
    refine E_iconst (v := 1) dX6_run_75 (by decide) ?_
    refine E_istore (lv' := [(0, .ref 18), (1, .int x1), (2, .int x2), (4, .int 1)]) dX6_run_76 (by decide) rfl ?_
    exact hB
  · have hB := hB.2 c
    refine E_aload_n 0 dX6_run_58 rfl rfl rfl ?_
    refine E_gR (j := 21) fG_X6_20 rfl (lo_18 hL) (lr_18_4 hL) (by decide) dX6_run_59 ?_
    refine E_iload 3 dX6_run_62 rfl ?_
    refine E_iconst (v := 1) dX6_run_64 (by decide) ?_
    refine E_iload 3 dX6_run_65 rfl ?_
    refine E_ishl dX6_run_67 ?_
    obtain ⟨qq1, hB⟩ := hB
    refine E_sI (p := Int32.toNatClampNeg x4) (la_21 hL) qq1 rfl dX6_run_68 ?_
    refine E_iinc (v := x4 + 1) (lv' := [(0, .ref 18), (1, .int x1), (2, .int x2), (4, .int (x4 + 1))]) 3 dX6_run_69 rfl rfl (by decide) rfl ?_
    refine E_goto (tgt := 51) dX6_run_72 (by decide) ?_
    exact hB

set_option maxRecDepth 20000 in
set_option maxHeartbeats 2000000 in
theorem kX6_run_78 {K : KT} {G : St} {Q : St → Prop} {x1 : Int32} {x2 : Int32} {x4 : Int32} (hL : Lay G.2.2) 
    (hB : ((x2 < x4 → EvVa K mX6_run 9 128 [(0, .ref 18), (4, .int 0)] [] G Q) ∧ (¬ x2 < x4 → ((5 < x4 → EvVa K mX6_run 9 128 [(0, .ref 18), (4, .int 0)] [] G Q) ∧ (¬ 5 < x4 → EvVa K mX6_grow 8 0 [(0, .ref 18), (1, .int 0), (2, .int 0), (3, .int 0), (4, .int x1)] [] (uI G 18 12 x4) (fun G1 => Lay G1.2.2 ∧ vp_in x4 6 ∧ EvV K mX6_widen 1 0 [(0, .ref 18)] [] (uI G1 22 (Int32.toNatClampNeg x4) (sI G1 18 16)) (fun G3 => EvVa K mX6_run 9 78 [(0, .ref 18), (1, .int x1), (2, .int x2), (4, .int (x4 + 1))] [] G3 Q))))))) :
    EvVa K mX6_run 9 78 [(0, .ref 18), (1, .int x1), (2, .int x2), (4, .int x4)] [] G Q := by
  refine E_iload 3 dX6_run_78 rfl ?_
  refine E_iload_n 2 dX6_run_80 rfl rfl ?_
  refine E_icmp_gt (tgt := 125) dX6_run_81 (by decide) (fun c => ?_) (fun c => ?_)
  · have hB := hB.1 c
    refine E_iconst (v := 0) dX6_run_125 (by decide) ?_
    refine E_istore (lv' := [(0, .ref 18), (1, .int x1), (2, .int x2), (4, .int 0)]) dX6_run_126 (by decide) rfl ?_
    refine E_sub (lv' := [(0, .ref 18), (4, .int 0)]) [0, 3] rfl ?_
    exact hB
  · have hB := hB.2 c
    refine E_iload 3 dX6_run_84 rfl ?_
    refine E_iconst (v := 5) dX6_run_86 (by decide) ?_
    refine E_icmp_gt (tgt := 125) dX6_run_87 (by decide) (fun c => ?_) (fun c => ?_)
    · have hB := hB.1 c
      refine E_iconst (v := 0) dX6_run_125 (by decide) ?_
      refine E_istore (lv' := [(0, .ref 18), (1, .int x1), (2, .int x2), (4, .int 0)]) dX6_run_126 (by decide) rfl ?_
      refine E_sub (lv' := [(0, .ref 18), (4, .int 0)]) [0, 3] rfl ?_
      exact hB
    · have hB := hB.2 c
      refine E_aload_n 0 dX6_run_90 rfl rfl rfl ?_
      refine E_iload 3 dX6_run_91 rfl ?_
      refine E_pI fP_X6_69 rfl (lo_18 hL) dX6_run_93 ?_
      refine E_aload_n 0 dX6_run_96 rfl rfl rfl ?_
      refine E_iconst (v := 0) dX6_run_97 (by decide) ?_
      refine E_iconst (v := 0) dX6_run_98 (by decide) ?_
      refine E_iconst (v := 0) dX6_run_99 (by decide) ?_
      refine E_iload_n 1 dX6_run_100 rfl rfl ?_
      refine E_cV (ci := 6) (as := [.int 0, .int 0, .int 0, .int x1]) (st := []) cm_X6_grow cV_X6_72 ⟨_, _, rfl⟩ (by decide) (lo_18 hL) rfl rfl (by decide) (Nat.le_of_ble_eq_true rfl) (Nat.le_of_ble_eq_true rfl) dX6_run_101 hB (fun r G1 hr => ?_)
      obtain ⟨rfl, hL1, hB⟩ := hr
      show Ev K mX6_run 9 104 [(0, .ref 18), (1, .int x1), (2, .int x2), (4, .int x4)] [] G1 _
      refine E_aload_n 0 dX6_run_104 rfl rfl rfl ?_
      refine E_gR (j := 22) fG_X6_23 rfl (lo_18 hL1) (lr_18_5 hL1) (by decide) dX6_run_105 ?_
      refine E_iload 3 dX6_run_108 rfl ?_
      refine E_aload_n 0 dX6_run_110 rfl rfl rfl ?_
      refine E_gI (v := sI G1 18 16) fG_X6_57 rfl (lo_18 hL1) rfl dX6_run_111 ?_
      obtain ⟨qq2, hB⟩ := hB
      refine E_sI (p := Int32.toNatClampNeg x4) (la_22 hL1) qq2 rfl dX6_run_114 ?_
      refine E_aload_n 0 dX6_run_115 rfl rfl rfl ?_
      refine E_cV (ci := 6) (as := []) (st := []) cm_X6_widen cV_X6_76 ⟨_, _, rfl⟩ (by decide) (lo_18 hL1) rfl rfl (by decide) (Nat.le_of_ble_eq_true rfl) (Nat.le_of_ble_eq_true rfl) dX6_run_116 hB (fun r G3 hr => ?_)
      obtain ⟨rfl, hE3, hB⟩ := hr
      have hL3 : Lay G3.2.2 := by rw [hE3]; exact hL1
      show Ev K mX6_run 9 119 [(0, .ref 18), (1, .int x1), (2, .int x2), (4, .int x4)] [] G3 _
      refine E_iinc (v := x4 + 1) (lv' := [(0, .ref 18), (1, .int x1), (2, .int x2), (4, .int (x4 + 1))]) 3 dX6_run_119 rfl rfl (by decide) rfl ?_
      refine E_goto (tgt := 78) dX6_run_122 (by decide) ?_
      exact hB

set_option maxRecDepth 20000 in
set_option maxHeartbeats 2000000 in
theorem kX6_run_128 {K : KT} {G : St} {Q : St → Prop} {x4 : Int32} (hL : Lay G.2.2) 
    (hB : (((sI G 18 17) ≤ x4 → EvVa K mX6_order 1 0 [(0, .ref 18)] [] G (fun G1 => Lay G1.2.2 ∧ Q G1)) ∧ (¬ (sI G 18 17) ≤ x4 → EvV K mX6_setPrice 3 0 [(0, .ref 18), (1, .int x4)] [] G (fun G2 => EvVa K mX6_run 9 128 [(0, .ref 18), (4, .int (x4 + 1))] [] G2 Q)))) :
    EvVa K mX6_run 9 128 [(0, .ref 18), (4, .int x4)] [] G Q := by
  refine E_iload 1 dX6_run_128 rfl ?_
  refine E_aload_n 0 dX6_run_130 rfl rfl rfl ?_
  refine E_gI (v := sI G 18 17) fG_X6_60 rfl (lo_18 hL) rfl dX6_run_131 ?_
  refine E_icmp_ge (tgt := 149) dX6_run_134 (by decide) (fun c => ?_) (fun c => ?_)
  · have hB := hB.1 c
    refine E_aload_n 0 dX6_run_149 rfl rfl rfl ?_
    refine E_cV (ci := 6) (as := []) (st := []) cm_X6_order cV_X6_83 ⟨_, _, rfl⟩ (by decide) (lo_18 hL) rfl rfl (by decide) (Nat.le_of_ble_eq_true rfl) (Nat.le_of_ble_eq_true rfl) dX6_run_150 hB (fun r G1 hr => ?_)
    obtain ⟨rfl, hL1, hB⟩ := hr
    show Ev K mX6_run 9 153 [(0, .ref 18), (4, .int x4)] [] G1 _
    exact E_vret rfl dX6_run_153 ⟨rfl, hB⟩
  · have hB := hB.2 c
    refine E_aload_n 0 dX6_run_137 rfl rfl rfl ?_
    refine E_iload 1 dX6_run_138 rfl ?_
    refine E_cV (ci := 6) (as := [.int x4]) (st := []) cm_X6_setPrice cV_X6_79 ⟨_, _, rfl⟩ (by decide) (lo_18 hL) rfl rfl (by decide) (Nat.le_of_ble_eq_true rfl) (Nat.le_of_ble_eq_true rfl) dX6_run_140 hB (fun r G2 hr => ?_)
    obtain ⟨rfl, hE2, hB⟩ := hr
    have hL2 : Lay G2.2.2 := by rw [hE2]; exact hL
    show Ev K mX6_run 9 143 [(0, .ref 18), (4, .int x4)] [] G2 _
    refine E_iinc (v := x4 + 1) (lv' := [(0, .ref 18), (4, .int (x4 + 1))]) 1 dX6_run_143 rfl rfl (by decide) rfl ?_
    refine E_goto (tgt := 128) dX6_run_146 (by decide) ?_
    exact hB

set_option maxRecDepth 20000 in
set_option maxHeartbeats 2000000 in
theorem kX6_tiesOf_0 {K : KT} {G : St} {Q : Int32 → St → Prop} {x1 : Int32} (hL : Lay G.2.2) 
    (hB : EvI K mX6_has 0 0 [(0, .ref 18), (1, .int x1)] [] G (fun r1 G1 => ((r1 = 0 → Q (-1) G1) ∧ (¬ r1 = 0 → vp_in x1 (sN G1 (sR G1 18 10)) ∧ ∀ v3 : Int32, v3 = Int64.toInt32 ((sL G1 (sR G1 18 10) (Int32.toNatClampNeg x1)) >>> (Int32.toInt64 30 &&& 63)) → Q (v3 &&& 63) G1)))) :
    EvI K mX6_tiesOf 1 0 [(0, .ref 18), (1, .int x1)] [] G Q := by
  refine E_aload_n 0 dX6_tiesOf_0 rfl rfl rfl ?_
  refine E_iload_n 1 dX6_tiesOf_1 rfl rfl ?_
  refine E_cV (ci := 6) (as := [.int x1]) (st := []) cm_X6_has cV_X6_164 ⟨_, _, rfl⟩ (by decide) (lo_18 hL) rfl rfl (by decide) (Nat.le_of_ble_eq_true rfl) (Nat.le_of_ble_eq_true rfl) dX6_tiesOf_2 hB (fun r G1 hr => ?_)
  obtain ⟨r1, rfl, hE1, hB⟩ := hr
  have hL1 : Lay G1.2.2 := by rw [hE1]; exact hL
  have hE1 : G1.2.2 = G.2.2 := hE1
  show Ev K mX6_tiesOf 1 5 [(0, .ref 18), (1, .int x1)] [.int r1] G1 _
  refine E_if_eq (tgt := 24) dX6_tiesOf_5 (by decide) (fun c => ?_) (fun c => ?_)
  · have hB := hB.1 c
    refine E_iconst (v := (-1)) dX6_tiesOf_24 (by decide) ?_
    exact E_iret rfl dX6_tiesOf_25 ⟨_, rfl, hE1, hB⟩
  · have hB := hB.2 c
    refine E_aload_n 0 dX6_tiesOf_8 rfl rfl rfl ?_
    refine E_gR (j := sR G1 18 10) fG_X6_39 rfl (lo_18 hL1) rfl (lg_18_10 hL1).2.1 dX6_tiesOf_9 ?_
    refine E_iload_n 1 dX6_tiesOf_12 rfl rfl ?_
    obtain ⟨qq2, hB⟩ := hB
    refine E_aL (p := Int32.toNatClampNeg x1) (v := sL G1 (sR G1 18 10) (Int32.toNatClampNeg x1)) (lg_18_10 hL1) qq2 rfl rfl dX6_tiesOf_13 ?_
    refine E_bipush (v := 30) dX6_tiesOf_14 (by decide) ?_
    refine E_lshr dX6_tiesOf_16 rfl ?_
    refine E_l2i dX6_tiesOf_17 rfl ?_
    refine E_topi (fun v3 ev3 => ?_)
    have hB := hB v3 ev3
    refine E_bipush (v := 63) dX6_tiesOf_18 (by decide) ?_
    refine E_iand dX6_tiesOf_20 ?_
    refine E_goto (tgt := 25) dX6_tiesOf_21 (by decide) ?_
    exact E_iret rfl dX6_tiesOf_25 ⟨_, rfl, hE1, hB⟩

set_option maxRecDepth 20000 in
set_option maxHeartbeats 2000000 in
theorem kX6_priceOf_0 {K : KT} {G : St} {Q : Int32 → St → Prop} {x1 : Int32} (hL : Lay G.2.2) 
    (hB : EvI K mX6_has 0 0 [(0, .ref 18), (1, .int x1)] [] G (fun r1 G1 => ((r1 = 0 → Q (-1) G1) ∧ (¬ r1 = 0 → vp_in x1 (sN G1 (sR G1 18 10)) ∧ ∀ v3 : Int32, v3 = Int64.toInt32 ((sL G1 (sR G1 18 10) (Int32.toNatClampNeg x1)) >>> (Int32.toInt64 36 &&& 63)) → Q v3 G1)))) :
    EvI K mX6_priceOf 1 0 [(0, .ref 18), (1, .int x1)] [] G Q := by
  refine E_aload_n 0 dX6_priceOf_0 rfl rfl rfl ?_
  refine E_iload_n 1 dX6_priceOf_1 rfl rfl ?_
  refine E_cV (ci := 6) (as := [.int x1]) (st := []) cm_X6_has cV_X6_164 ⟨_, _, rfl⟩ (by decide) (lo_18 hL) rfl rfl (by decide) (Nat.le_of_ble_eq_true rfl) (Nat.le_of_ble_eq_true rfl) dX6_priceOf_2 hB (fun r G1 hr => ?_)
  obtain ⟨r1, rfl, hE1, hB⟩ := hr
  have hL1 : Lay G1.2.2 := by rw [hE1]; exact hL
  have hE1 : G1.2.2 = G.2.2 := hE1
  show Ev K mX6_priceOf 1 5 [(0, .ref 18), (1, .int x1)] [.int r1] G1 _
  refine E_if_eq (tgt := 21) dX6_priceOf_5 (by decide) (fun c => ?_) (fun c => ?_)
  · have hB := hB.1 c
    refine E_iconst (v := (-1)) dX6_priceOf_21 (by decide) ?_
    exact E_iret rfl dX6_priceOf_22 ⟨_, rfl, hE1, hB⟩
  · have hB := hB.2 c
    refine E_aload_n 0 dX6_priceOf_8 rfl rfl rfl ?_
    refine E_gR (j := sR G1 18 10) fG_X6_39 rfl (lo_18 hL1) rfl (lg_18_10 hL1).2.1 dX6_priceOf_9 ?_
    refine E_iload_n 1 dX6_priceOf_12 rfl rfl ?_
    obtain ⟨qq2, hB⟩ := hB
    refine E_aL (p := Int32.toNatClampNeg x1) (v := sL G1 (sR G1 18 10) (Int32.toNatClampNeg x1)) (lg_18_10 hL1) qq2 rfl rfl dX6_priceOf_13 ?_
    refine E_bipush (v := 36) dX6_priceOf_14 (by decide) ?_
    refine E_lshr dX6_priceOf_16 rfl ?_
    refine E_l2i dX6_priceOf_17 rfl ?_
    refine E_topi (fun v3 ev3 => ?_)
    have hB := hB v3 ev3
    refine E_goto (tgt := 22) dX6_priceOf_18 (by decide) ?_
    exact E_iret rfl dX6_priceOf_22 ⟨_, rfl, hE1, hB⟩

set_option maxRecDepth 20000 in
set_option maxHeartbeats 2000000 in
theorem kX6_placeOf_0 {K : KT} {G : St} {Q : Int32 → St → Prop} {x1 : Int32} (hL : Lay G.2.2) 
    (hB : EvI K mX6_placeOf 2 2 [(0, .ref 18), (1, .int x1), (2, .int 0)] [] G Q) :
    EvI K mX6_placeOf 2 0 [(0, .ref 18), (1, .int x1)] [] G Q := by
  refine E_iconst (v := 0) dX6_placeOf_0 (by decide) ?_
  refine E_istore_n (lv' := [(0, .ref 18), (1, .int x1), (2, .int 0)]) dX6_placeOf_1 rfl (by decide) rfl ?_
  exact EvI.tr hB rfl

set_option maxRecDepth 20000 in
set_option maxHeartbeats 2000000 in
theorem kX6_placeOf_2 {K : KT} {G : St} {Q : Int32 → St → Prop} {x1 : Int32} {x2 : Int32} (hL : Lay G.2.2) 
    (hB : (((sI G 18 17) ≤ x2 → Q (-1) G) ∧ (¬ (sI G 18 17) ≤ x2 → EvI K mX6_setOf 1 0 [(0, .ref 18), (1, .int x2)] [] G (fun r1 G1 => ((¬ r1 = x1 → EvI K mX6_placeOf 2 2 [(0, .ref 18), (1, .int x1), (2, .int (x2 + 1))] [] G1 Q) ∧ (r1 = x1 → Q x2 G1)))))) :
    EvI K mX6_placeOf 2 2 [(0, .ref 18), (1, .int x1), (2, .int x2)] [] G Q := by
  refine E_iload_n 2 dX6_placeOf_2 rfl rfl ?_
  refine E_aload_n 0 dX6_placeOf_3 rfl rfl rfl ?_
  refine E_gI (v := sI G 18 17) fG_X6_60 rfl (lo_18 hL) rfl dX6_placeOf_4 ?_
  refine E_icmp_ge (tgt := 27) dX6_placeOf_7 (by decide) (fun c => ?_) (fun c => ?_)
  · have hB := hB.1 c
    refine E_iconst (v := (-1)) dX6_placeOf_27 (by decide) ?_
    exact E_iret rfl dX6_placeOf_28 ⟨_, rfl, rfl, hB⟩
  · have hB := hB.2 c
    refine E_aload_n 0 dX6_placeOf_10 rfl rfl rfl ?_
    refine E_iload_n 2 dX6_placeOf_11 rfl rfl ?_
    refine E_cV (ci := 6) (as := [.int x2]) (st := []) cm_X6_setOf cV_X6_167 ⟨_, _, rfl⟩ (by decide) (lo_18 hL) rfl rfl (by decide) (Nat.le_of_ble_eq_true rfl) (Nat.le_of_ble_eq_true rfl) dX6_placeOf_12 hB (fun r G1 hr => ?_)
    obtain ⟨r1, rfl, hE1, hB⟩ := hr
    have hL1 : Lay G1.2.2 := by rw [hE1]; exact hL
    have hE1 : G1.2.2 = G.2.2 := hE1
    show Ev K mX6_placeOf 2 15 [(0, .ref 18), (1, .int x1), (2, .int x2)] [.int r1] G1 _
    refine E_iload_n 1 dX6_placeOf_15 rfl rfl ?_
    refine E_icmp_ne (tgt := 21) dX6_placeOf_16 (by decide) (fun c => ?_) (fun c => ?_)
    · have hB := hB.1 c
      refine E_iinc (v := x2 + 1) (lv' := [(0, .ref 18), (1, .int x1), (2, .int (x2 + 1))]) 2 dX6_placeOf_21 rfl rfl (by decide) rfl ?_
      refine E_goto (tgt := 2) dX6_placeOf_24 (by decide) ?_
      exact EvI.tr hB hE1
    · have hB := hB.2 c
      refine E_iload_n 2 dX6_placeOf_19 rfl rfl ?_
      exact E_iret rfl dX6_placeOf_20 ⟨_, rfl, hE1, hB⟩

set_option maxRecDepth 20000 in
set_option maxHeartbeats 2000000 in
theorem kX6_leastBehind_0 {K : KT} {G : St} {Q : Int32 → St → Prop} {x1 : Int32} (hL : Lay G.2.2) 
    (hB : EvI K mX6_leastBehind 0 4 [(0, .ref 18), (1, .int x1), (2, .int (-1)), (3, .int 0)] [] G Q) :
    EvI K mX6_leastBehind 0 0 [(0, .ref 18), (1, .int x1)] [] G Q := by
  refine E_iconst (v := (-1)) dX6_leastBehind_0 (by decide) ?_
  refine E_istore_n (lv' := [(0, .ref 18), (1, .int x1), (2, .int (-1))]) dX6_leastBehind_1 rfl (by decide) rfl ?_
  refine E_iconst (v := 0) dX6_leastBehind_2 (by decide) ?_
  refine E_istore_n (lv' := [(0, .ref 18), (1, .int x1), (2, .int (-1)), (3, .int 0)]) dX6_leastBehind_3 rfl (by decide) rfl ?_
  exact EvI.tr hB rfl

set_option maxRecDepth 20000 in
set_option maxHeartbeats 2000000 in
theorem kX6_leastBehind_4 {K : KT} {G : St} {Q : Int32 → St → Prop} {x1 : Int32} {x2 : Int32} {x3 : Int32} (hL : Lay G.2.2) 
    (hB : (((sI G 18 11) ≤ x3 → Q x2 G) ∧ (¬ (sI G 18 11) ≤ x3 → vp_in x3 64 ∧ ((x1 < (sI G 24 (Int32.toNatClampNeg x3)) → Q x2 G) ∧ (¬ x1 < (sI G 24 (Int32.toNatClampNeg x3)) → vp_in x3 64 ∧ EvI K mX6_leastBehind 0 4 [(0, .ref 18), (1, .int x1), (2, .int (sI G 25 (Int32.toNatClampNeg x3))), (3, .int (x3 + 1))] [] G Q))))) :
    EvI K mX6_leastBehind 0 4 [(0, .ref 18), (1, .int x1), (2, .int x2), (3, .int x3)] [] G Q := by
  refine E_iload_n 3 dX6_leastBehind_4 rfl rfl ?_
  refine E_aload_n 0 dX6_leastBehind_5 rfl rfl rfl ?_
  refine E_gI (v := sI G 18 11) fG_X6_63 rfl (lo_18 hL) rfl dX6_leastBehind_6 ?_
  refine E_icmp_ge (tgt := 35) dX6_leastBehind_9 (by decide) (fun c => ?_) (fun c => ?_)
  · have hB := hB.1 c
    refine E_iload_n 2 dX6_leastBehind_35 rfl rfl ?_
    exact E_iret rfl dX6_leastBehind_36 ⟨_, rfl, rfl, hB⟩
  · have hB := hB.2 c
    refine E_aload_n 0 dX6_leastBehind_12 rfl rfl rfl ?_
    refine E_gR (j := 24) fG_X6_29 rfl (lo_18 hL) (lr_18_7 hL) (by decide) dX6_leastBehind_13 ?_
    refine E_iload_n 3 dX6_leastBehind_16 rfl rfl ?_
    obtain ⟨qq1, hB⟩ := hB
    refine E_aI (p := Int32.toNatClampNeg x3) (v := sI G 24 (Int32.toNatClampNeg x3)) (la_24 hL) qq1 rfl rfl dX6_leastBehind_17 ?_
    refine E_iload_n 1 dX6_leastBehind_18 rfl rfl ?_
    refine E_icmp_gt (tgt := 35) dX6_leastBehind_19 (by decide) (fun c => ?_) (fun c => ?_)
    · have hB := hB.1 c
      refine E_iload_n 2 dX6_leastBehind_35 rfl rfl ?_
      exact E_iret rfl dX6_leastBehind_36 ⟨_, rfl, rfl, hB⟩
    · have hB := hB.2 c
      refine E_aload_n 0 dX6_leastBehind_22 rfl rfl rfl ?_
      refine E_gR (j := 25) fG_X6_32 rfl (lo_18 hL) (lr_18_8 hL) (by decide) dX6_leastBehind_23 ?_
      refine E_iload_n 3 dX6_leastBehind_26 rfl rfl ?_
      obtain ⟨qq2, hB⟩ := hB
      refine E_aI (p := Int32.toNatClampNeg x3) (v := sI G 25 (Int32.toNatClampNeg x3)) (la_25 hL) qq2 rfl rfl dX6_leastBehind_27 ?_
      refine E_istore_n (lv' := [(0, .ref 18), (1, .int x1), (2, .int (sI G 25 (Int32.toNatClampNeg x3))), (3, .int x3)]) dX6_leastBehind_28 rfl (by decide) rfl ?_
      refine E_iinc (v := x3 + 1) (lv' := [(0, .ref 18), (1, .int x1), (2, .int (sI G 25 (Int32.toNatClampNeg x3))), (3, .int (x3 + 1))]) 3 dX6_leastBehind_29 rfl rfl (by decide) rfl ?_
      refine E_goto (tgt := 4) dX6_leastBehind_32 (by decide) ?_
      exact EvI.tr hB rfl

set_option maxRecDepth 20000 in
set_option maxHeartbeats 2000000 in
theorem kX6_boundBehind_0 {K : KT} {G : St} {Q : Int32 → St → Prop} {x1 : Int32} (hL : Lay G.2.2) 
    (hB : ((x1 < (sI G 18 16) → EvI K mX6_boundBehind 0 12 [(0, .ref 18), (1, .int x1), (2, .int 1)] [] G Q) ∧ (¬ x1 < (sI G 18 16) → Q (-1) G))) :
    EvI K mX6_boundBehind 0 0 [(0, .ref 18), (1, .int x1)] [] G Q := by
  refine E_iload_n 1 dX6_boundBehind_0 rfl rfl ?_
  refine E_aload_n 0 dX6_boundBehind_1 rfl rfl rfl ?_
  refine E_gI (v := sI G 18 16) fG_X6_57 rfl (lo_18 hL) rfl dX6_boundBehind_2 ?_
  refine E_icmp_lt (tgt := 10) dX6_boundBehind_5 (by decide) (fun c => ?_) (fun c => ?_)
  · have hB := hB.1 c
    refine E_iconst (v := 1) dX6_boundBehind_10 (by decide) ?_
    refine E_istore_n (lv' := [(0, .ref 18), (1, .int x1), (2, .int 1)]) dX6_boundBehind_11 rfl (by decide) rfl ?_
    exact EvI.tr hB rfl
  · have hB := hB.2 c
    refine E_iconst (v := (-1)) dX6_boundBehind_8 (by decide) ?_
    exact E_iret rfl dX6_boundBehind_9 ⟨_, rfl, rfl, hB⟩

set_option maxRecDepth 20000 in
set_option maxHeartbeats 2000000 in
theorem kX6_boundBehind_12 {K : KT} {G : St} {Q : Int32 → St → Prop} {x1 : Int32} {x2 : Int32} (hL : Lay G.2.2) 
    (hB : ((5 ≤ x2 → EvI K mX6_boundBehind 0 33 [(0, .ref 18), (2, .int x2)] [] G Q) ∧ (¬ 5 ≤ x2 → vp_in x2 6 ∧ ((x1 < (sI G 22 (Int32.toNatClampNeg x2)) → EvI K mX6_boundBehind 0 33 [(0, .ref 18), (2, .int x2)] [] G Q) ∧ (¬ x1 < (sI G 22 (Int32.toNatClampNeg x2)) → EvI K mX6_boundBehind 0 12 [(0, .ref 18), (1, .int x1), (2, .int (x2 + 1))] [] G Q))))) :
    EvI K mX6_boundBehind 0 12 [(0, .ref 18), (1, .int x1), (2, .int x2)] [] G Q := by
  refine E_iload_n 2 dX6_boundBehind_12 rfl rfl ?_
  refine E_iconst (v := 5) dX6_boundBehind_13 (by decide) ?_
  refine E_icmp_ge (tgt := 33) dX6_boundBehind_14 (by decide) (fun c => ?_) (fun c => ?_)
  · have hB := hB.1 c
    refine E_sub (lv' := [(0, .ref 18), (2, .int x2)]) [0, 2] rfl ?_
    exact EvI.tr hB rfl
  · have hB := hB.2 c
    refine E_aload_n 0 dX6_boundBehind_17 rfl rfl rfl ?_
    refine E_gR (j := 22) fG_X6_23 rfl (lo_18 hL) (lr_18_5 hL) (by decide) dX6_boundBehind_18 ?_
    refine E_iload_n 2 dX6_boundBehind_21 rfl rfl ?_
    obtain ⟨qq1, hB⟩ := hB
    refine E_aI (p := Int32.toNatClampNeg x2) (v := sI G 22 (Int32.toNatClampNeg x2)) (la_22 hL) qq1 rfl rfl dX6_boundBehind_22 ?_
    refine E_iload_n 1 dX6_boundBehind_23 rfl rfl ?_
    refine E_icmp_gt (tgt := 33) dX6_boundBehind_24 (by decide) (fun c => ?_) (fun c => ?_)
    · have hB := hB.1 c
      refine E_sub (lv' := [(0, .ref 18), (2, .int x2)]) [0, 2] rfl ?_
      exact EvI.tr hB rfl
    · have hB := hB.2 c
      refine E_iinc (v := x2 + 1) (lv' := [(0, .ref 18), (1, .int x1), (2, .int (x2 + 1))]) 2 dX6_boundBehind_27 rfl rfl (by decide) rfl ?_
      refine E_goto (tgt := 12) dX6_boundBehind_30 (by decide) ?_
      exact EvI.tr hB rfl

set_option maxRecDepth 20000 in
set_option maxHeartbeats 2000000 in
theorem kX6_boundBehind_33 {K : KT} {G : St} {Q : Int32 → St → Prop} {x2 : Int32} (hL : Lay G.2.2) 
    (hB : ((x2 ≤ 1 → EvI K mX6_boundBehind 0 50 [(0, .ref 18), (2, .int x2)] [] G Q) ∧ (¬ x2 ≤ 1 → ((¬ (sI G 11 3) = 0 → EvI K mX6_boundBehind 0 50 [(0, .ref 18), (2, .int x2)] [] G Q) ∧ ((sI G 11 3) = 0 → Q (-1) G))))) :
    EvI K mX6_boundBehind 0 33 [(0, .ref 18), (2, .int x2)] [] G Q := by
  refine E_iload_n 1 dX6_boundBehind_33 rfl rfl ?_
  refine E_iconst (v := 1) dX6_boundBehind_34 (by decide) ?_
  refine E_icmp_le (tgt := 50) dX6_boundBehind_35 (by decide) (fun c => ?_) (fun c => ?_)
  · have hB := hB.1 c
    exact EvI.tr hB rfl
  · have hB := hB.2 c
    refine E_aload_n 0 dX6_boundBehind_38 rfl rfl rfl ?_
    refine E_gR (j := 11) fG_X6_42 rfl (lo_18 hL) (lr_18_0 hL) (by decide) dX6_boundBehind_39 ?_
    refine E_gI (v := sI G 11 3) fG_X6_170 rfl (lo_11 hL) rfl dX6_boundBehind_42 ?_
    refine E_if_ne (tgt := 50) dX6_boundBehind_45 (by decide) (fun c => ?_) (fun c => ?_)
    · have hB := hB.1 c
      exact EvI.tr hB rfl
    · have hB := hB.2 c
      refine E_iconst (v := (-1)) dX6_boundBehind_48 (by decide) ?_
      exact E_iret rfl dX6_boundBehind_49 ⟨_, rfl, rfl, hB⟩

set_option maxRecDepth 20000 in
set_option maxHeartbeats 2000000 in
theorem kX6_boundBehind_50 {K : KT} {G : St} {Q : Int32 → St → Prop} {x2 : Int32} (hL : Lay G.2.2) 
    (hB : EvI K mX6_boundBehind 0 65 [(0, .ref 18), (3, .int ((x2 - 1) * (sI G 11 3))), (4, .int 0)] [] G Q) :
    EvI K mX6_boundBehind 0 50 [(0, .ref 18), (2, .int x2)] [] G Q := by
  refine E_iload_n 1 dX6_boundBehind_50 rfl rfl ?_
  refine E_iconst (v := 1) dX6_boundBehind_51 (by decide) ?_
  refine E_isub dX6_boundBehind_52 ?_
  refine E_aload_n 0 dX6_boundBehind_53 rfl rfl rfl ?_
  refine E_gR (j := 11) fG_X6_42 rfl (lo_18 hL) (lr_18_0 hL) (by decide) dX6_boundBehind_54 ?_
  refine E_gI (v := sI G 11 3) fG_X6_170 rfl (lo_11 hL) rfl dX6_boundBehind_57 ?_
  refine E_imul dX6_boundBehind_60 ?_
  refine E_istore_n (lv' := [(0, .ref 18), (2, .int x2), (3, .int ((x2 - 1) * (sI G 11 3)))]) dX6_boundBehind_61 rfl (by decide) rfl ?_
  refine E_iconst (v := 0) dX6_boundBehind_62 (by decide) ?_
  refine E_istore (lv' := [(0, .ref 18), (2, .int x2), (3, .int ((x2 - 1) * (sI G 11 3))), (4, .int 0)]) dX6_boundBehind_63 (by decide) rfl ?_
  refine E_sub (lv' := [(0, .ref 18), (3, .int ((x2 - 1) * (sI G 11 3))), (4, .int 0)]) [0, 2, 3] rfl ?_
  exact EvI.tr hB rfl

set_option maxRecDepth 20000 in
set_option maxHeartbeats 2000000 in
theorem kX6_boundBehind_65 {K : KT} {G : St} {Q : Int32 → St → Prop} {x3 : Int32} {x4 : Int32} (hL : Lay G.2.2) 
    (hB : (((sI G 18 13) ≤ x4 → Q x3 G) ∧ (¬ (sI G 18 13) ≤ x4 → vp_in x4 4 ∧ ((¬ (sI G 9 (Int32.toNatClampNeg x4)) = (-1) → vp_in x4 4 ∧ EvI K mX6_boundBehind 0 65 [(0, .ref 18), (3, .int (x3 + (sI G 9 (Int32.toNatClampNeg x4)))), (4, .int (x4 + 1))] [] G Q) ∧ ((sI G 9 (Int32.toNatClampNeg x4)) = (-1) → Q (-1) G))))) :
    EvI K mX6_boundBehind 0 65 [(0, .ref 18), (3, .int x3), (4, .int x4)] [] G Q := by
  refine E_iload 2 dX6_boundBehind_65 rfl ?_
  refine E_aload_n 0 dX6_boundBehind_67 rfl rfl rfl ?_
  refine E_gI (v := sI G 18 13) fG_X6_50 rfl (lo_18 hL) rfl dX6_boundBehind_68 ?_
  refine E_icmp_ge (tgt := 109) dX6_boundBehind_71 (by decide) (fun c => ?_) (fun c => ?_)
  · have hB := hB.1 c
    refine E_iload_n 1 dX6_boundBehind_109 rfl rfl ?_
    exact E_iret rfl dX6_boundBehind_110 ⟨_, rfl, rfl, hB⟩
  · have hB := hB.2 c
    refine E_aload_n 0 dX6_boundBehind_74 rfl rfl rfl ?_
    refine E_gR (j := 5) fG_X6_46 rfl (lo_18 hL) (lr_18_1 hL) (by decide) dX6_boundBehind_75 ?_
    refine E_gR (j := 9) fG_X6_173 rfl (lo_5 hL) (lr_5_4 hL) (by decide) dX6_boundBehind_78 ?_
    refine E_iload 2 dX6_boundBehind_81 rfl ?_
    obtain ⟨qq1, hB⟩ := hB
    refine E_aI (p := Int32.toNatClampNeg x4) (v := sI G 9 (Int32.toNatClampNeg x4)) (la_9 hL) qq1 rfl rfl dX6_boundBehind_83 ?_
    refine E_iconst (v := (-1)) dX6_boundBehind_84 (by decide) ?_
    refine E_icmp_ne (tgt := 90) dX6_boundBehind_85 (by decide) (fun c => ?_) (fun c => ?_)
    · have hB := hB.1 c
      refine E_iload_n 1 dX6_boundBehind_90 rfl rfl ?_
      refine E_aload_n 0 dX6_boundBehind_91 rfl rfl rfl ?_
      refine E_gR (j := 5) fG_X6_46 rfl (lo_18 hL) (lr_18_1 hL) (by decide) dX6_boundBehind_92 ?_
      refine E_gR (j := 9) fG_X6_173 rfl (lo_5 hL) (lr_5_4 hL) (by decide) dX6_boundBehind_95 ?_
      refine E_iload 2 dX6_boundBehind_98 rfl ?_
      obtain ⟨qq2, hB⟩ := hB
      refine E_aI (p := Int32.toNatClampNeg x4) (v := sI G 9 (Int32.toNatClampNeg x4)) (la_9 hL) qq2 rfl rfl dX6_boundBehind_100 ?_
      refine E_iadd dX6_boundBehind_101 ?_
      refine E_istore_n (lv' := [(0, .ref 18), (3, .int (x3 + (sI G 9 (Int32.toNatClampNeg x4)))), (4, .int x4)]) dX6_boundBehind_102 rfl (by decide) rfl ?_
      refine E_iinc (v := x4 + 1) (lv' := [(0, .ref 18), (3, .int (x3 + (sI G 9 (Int32.toNatClampNeg x4)))), (4, .int (x4 + 1))]) 2 dX6_boundBehind_103 rfl rfl (by decide) rfl ?_
      refine E_goto (tgt := 65) dX6_boundBehind_106 (by decide) ?_
      exact EvI.tr hB rfl
    · have hB := hB.2 c
      refine E_iconst (v := (-1)) dX6_boundBehind_88 (by decide) ?_
      exact E_iret rfl dX6_boundBehind_89 ⟨_, rfl, rfl, hB⟩

set_option maxRecDepth 20000 in
set_option maxHeartbeats 2000000 in
theorem kX6_canBeHeld_0 {K : KT} {G : St} {Q : Int32 → St → Prop} {x1 : Int32} (hL : Lay G.2.2) 
    (hB : EvI K mX6_canBeHeld 0 2 [(0, .ref 18), (1, .int x1), (2, .int 0)] [] G Q) :
    EvI K mX6_canBeHeld 0 0 [(0, .ref 18), (1, .int x1)] [] G Q := by
  refine E_iconst (v := 0) dX6_canBeHeld_0 (by decide) ?_
  refine E_istore_n (lv' := [(0, .ref 18), (1, .int x1), (2, .int 0)]) dX6_canBeHeld_1 rfl (by decide) rfl ?_
  exact EvI.tr hB rfl

set_option maxRecDepth 20000 in
set_option maxHeartbeats 2000000 in
theorem kX6_canBeHeld_2 {K : KT} {G : St} {Q : Int32 → St → Prop} {x1 : Int32} {x2 : Int32} (hL : Lay G.2.2) 
    (hB : (((sI G 18 14) < x2 → Q 0 G) ∧ (¬ (sI G 18 14) < x2 → (((((sI G 18 15) >>> (x2 &&& 31)) &&& 1) = 0 → EvI K mX6_canBeHeld 0 30 [(0, .ref 18), (1, .int x1), (2, .int x2)] [] G Q) ∧ (¬ (((sI G 18 15) >>> (x2 &&& 31)) &&& 1) = 0 → ((¬ (x2 &&& x1) = x1 → EvI K mX6_canBeHeld 0 30 [(0, .ref 18), (1, .int x1), (2, .int x2)] [] G Q) ∧ ((x2 &&& x1) = x1 → Q 1 G))))))) :
    EvI K mX6_canBeHeld 0 2 [(0, .ref 18), (1, .int x1), (2, .int x2)] [] G Q := by
  refine E_iload_n 2 dX6_canBeHeld_2 rfl rfl ?_
  refine E_aload_n 0 dX6_canBeHeld_3 rfl rfl rfl ?_
  refine E_gI (v := sI G 18 14) fG_X6_54 rfl (lo_18 hL) rfl dX6_canBeHeld_4 ?_
  refine E_icmp_gt (tgt := 36) dX6_canBeHeld_7 (by decide) (fun c => ?_) (fun c => ?_)
  · have hB := hB.1 c
    refine E_iconst (v := 0) dX6_canBeHeld_36 (by decide) ?_
    exact E_zret rfl (Or.inl rfl) dX6_canBeHeld_37 ⟨_, rfl, rfl, hB⟩
  · have hB := hB.2 c
    refine E_aload_n 0 dX6_canBeHeld_10 rfl rfl rfl ?_
    refine E_gI (v := sI G 18 15) fG_X6_66 rfl (lo_18 hL) rfl dX6_canBeHeld_11 ?_
    refine E_iload_n 2 dX6_canBeHeld_14 rfl rfl ?_
    refine E_ishr dX6_canBeHeld_15 ?_
    refine E_iconst (v := 1) dX6_canBeHeld_16 (by decide) ?_
    refine E_iand dX6_canBeHeld_17 ?_
    refine E_if_eq (tgt := 30) dX6_canBeHeld_18 (by decide) (fun c => ?_) (fun c => ?_)
    · have hB := hB.1 c
      exact EvI.tr hB rfl
    · have hB := hB.2 c
      refine E_iload_n 2 dX6_canBeHeld_21 rfl rfl ?_
      refine E_iload_n 1 dX6_canBeHeld_22 rfl rfl ?_
      refine E_iand dX6_canBeHeld_23 ?_
      refine E_iload_n 1 dX6_canBeHeld_24 rfl rfl ?_
      refine E_icmp_ne (tgt := 30) dX6_canBeHeld_25 (by decide) (fun c => ?_) (fun c => ?_)
      · have hB := hB.1 c
        exact EvI.tr hB rfl
      · have hB := hB.2 c
        refine E_iconst (v := 1) dX6_canBeHeld_28 (by decide) ?_
        exact E_zret rfl (Or.inr rfl) dX6_canBeHeld_29 ⟨_, rfl, rfl, hB⟩

set_option maxRecDepth 20000 in
set_option maxHeartbeats 2000000 in
theorem kX6_canBeHeld_30 {K : KT} {G : St} {Q : Int32 → St → Prop} {x1 : Int32} {x2 : Int32} (hL : Lay G.2.2) 
    (hB : EvI K mX6_canBeHeld 0 2 [(0, .ref 18), (1, .int x1), (2, .int (x2 + 1))] [] G Q) :
    EvI K mX6_canBeHeld 0 30 [(0, .ref 18), (1, .int x1), (2, .int x2)] [] G Q := by
  refine E_iinc (v := x2 + 1) (lv' := [(0, .ref 18), (1, .int x1), (2, .int (x2 + 1))]) 2 dX6_canBeHeld_30 rfl rfl (by decide) rfl ?_
  refine E_goto (tgt := 2) dX6_canBeHeld_33 (by decide) ?_
  exact EvI.tr hB rfl

set_option maxRecDepth 20000 in
set_option maxHeartbeats 2000000 in
theorem kX6_leftOut_0 {K : KT} {G : St} {Q : Int32 → St → Prop}  (hL : Lay G.2.2) 
    (hB : (((sI G 18 17) ≤ 0 → EvI K mX6_leftOut 1 11 [(0, .ref 18), (1, .int 1)] [] G Q) ∧ (¬ (sI G 18 17) ≤ 0 → Q (-1) G))) :
    EvI K mX6_leftOut 1 0 [(0, .ref 18)] [] G Q := by
  refine E_aload_n 0 dX6_leftOut_0 rfl rfl rfl ?_
  refine E_gI (v := sI G 18 17) fG_X6_60 rfl (lo_18 hL) rfl dX6_leftOut_1 ?_
  refine E_if_le (tgt := 9) dX6_leftOut_4 (by decide) (fun c => ?_) (fun c => ?_)
  · have hB := hB.1 c
    refine E_iconst (v := 1) dX6_leftOut_9 (by decide) ?_
    refine E_istore_n (lv' := [(0, .ref 18), (1, .int 1)]) dX6_leftOut_10 rfl (by decide) rfl ?_
    exact EvI.tr hB rfl
  · have hB := hB.2 c
    refine E_iconst (v := (-1)) dX6_leftOut_7 (by decide) ?_
    exact E_iret rfl dX6_leftOut_8 ⟨_, rfl, rfl, hB⟩

set_option maxRecDepth 20000 in
set_option maxHeartbeats 2000000 in
theorem kX6_leftOut_11 {K : KT} {G : St} {Q : Int32 → St → Prop} {x1 : Int32} (hL : Lay G.2.2) 
    (hB : (((sI G 18 13) ≤ x1 → Q (-1) G) ∧ (¬ (sI G 18 13) ≤ x1 → EvI K mX6_leftOut 1 21 [(0, .ref 18), (1, .int x1), (2, .int 1)] [] G Q))) :
    EvI K mX6_leftOut 1 11 [(0, .ref 18), (1, .int x1)] [] G Q := by
  refine E_iload_n 1 dX6_leftOut_11 rfl rfl ?_
  refine E_aload_n 0 dX6_leftOut_12 rfl rfl rfl ?_
  refine E_gI (v := sI G 18 13) fG_X6_50 rfl (lo_18 hL) rfl dX6_leftOut_13 ?_
  refine E_icmp_ge (tgt := 66) dX6_leftOut_16 (by decide) (fun c => ?_) (fun c => ?_)
  · have hB := hB.1 c
    refine E_iconst (v := (-1)) dX6_leftOut_66 (by decide) ?_
    exact E_iret rfl dX6_leftOut_67 ⟨_, rfl, rfl, hB⟩
  · have hB := hB.2 c
    refine E_iconst (v := 1) dX6_leftOut_19 (by decide) ?_
    refine E_istore_n (lv' := [(0, .ref 18), (1, .int x1), (2, .int 1)]) dX6_leftOut_20 rfl (by decide) rfl ?_
    exact EvI.tr hB rfl

set_option maxRecDepth 20000 in
set_option maxHeartbeats 2000000 in
theorem kX6_leftOut_21 {K : KT} {G : St} {Q : Int32 → St → Prop} {x1 : Int32} {x2 : Int32} (hL : Lay G.2.2) 
    (hB : (((sI G 18 14) ≤ x2 → EvI K mX6_leftOut 1 11 [(0, .ref 18), (1, .int (x1 + 1))] [] G Q) ∧ (¬ (sI G 18 14) ≤ x2 → EvI K mJ6_bitCount_0f7a4 0 0 [(0, .int x2)] [] G (fun r1 G1 => ((¬ r1 = x1 → EvI K mX6_leftOut 1 54 [(0, .ref 18), (1, .int x1), (2, .int x2)] [] G1 Q) ∧ (r1 = x1 → EvI K mX6_canBeHeld 0 0 [(0, .ref 18), (1, .int ((sI G1 18 14) &&& (x2 ^^^ (-1))))] [] G1 (fun r2 G2 => ((r2 = 0 → EvI K mX6_leftOut 1 54 [(0, .ref 18), (1, .int x1), (2, .int x2)] [] G2 Q) ∧ (¬ r2 = 0 → Q x2 G2))))))))) :
    EvI K mX6_leftOut 1 21 [(0, .ref 18), (1, .int x1), (2, .int x2)] [] G Q := by
  refine E_iload_n 2 dX6_leftOut_21 rfl rfl ?_
  refine E_aload_n 0 dX6_leftOut_22 rfl rfl rfl ?_
  refine E_gI (v := sI G 18 14) fG_X6_54 rfl (lo_18 hL) rfl dX6_leftOut_23 ?_
  refine E_icmp_ge (tgt := 60) dX6_leftOut_26 (by decide) (fun c => ?_) (fun c => ?_)
  · have hB := hB.1 c
    refine E_iinc (v := x1 + 1) (lv' := [(0, .ref 18), (1, .int (x1 + 1)), (2, .int x2)]) 1 dX6_leftOut_60 rfl rfl (by decide) rfl ?_
    refine E_goto (tgt := 11) dX6_leftOut_63 (by decide) ?_
    refine E_sub (lv' := [(0, .ref 18), (1, .int (x1 + 1))]) [0, 1] rfl ?_
    exact EvI.tr hB rfl
  · have hB := hB.2 c
    refine E_iload_n 2 dX6_leftOut_29 rfl rfl ?_
    refine E_callS (as := [.int x2]) (st := []) cm_J6_bitCount_0f7a4 cS_X6_86 rfl rfl (by decide) (Nat.le_of_ble_eq_true rfl) (Nat.le_of_ble_eq_true rfl) dX6_leftOut_30 hB (fun r G1 hr => ?_)
    obtain ⟨r1, rfl, hE1, hB⟩ := hr
    have hL1 : Lay G1.2.2 := by rw [hE1]; exact hL
    have hE1 : G1.2.2 = G.2.2 := hE1
    show Ev K mX6_leftOut 1 33 [(0, .ref 18), (1, .int x1), (2, .int x2)] [.int r1] G1 _
    refine E_iload_n 1 dX6_leftOut_33 rfl rfl ?_
    refine E_icmp_ne (tgt := 54) dX6_leftOut_34 (by decide) (fun c => ?_) (fun c => ?_)
    · have hB := hB.1 c
      exact EvI.tr hB hE1
    · have hB := hB.2 c
      refine E_aload_n 0 dX6_leftOut_37 rfl rfl rfl ?_
      refine E_aload_n 0 dX6_leftOut_38 rfl rfl rfl ?_
      refine E_gI (v := sI G1 18 14) fG_X6_54 rfl (lo_18 hL1) rfl dX6_leftOut_39 ?_
      refine E_iload_n 2 dX6_leftOut_42 rfl rfl ?_
      refine E_iconst (v := (-1)) dX6_leftOut_43 (by decide) ?_
      refine E_ixor dX6_leftOut_44 ?_
      refine E_iand dX6_leftOut_45 ?_
      refine E_cV (ci := 6) (as := [.int ((sI G1 18 14) &&& (x2 ^^^ (-1)))]) (st := []) cm_X6_canBeHeld cV_X6_175 ⟨_, _, rfl⟩ (by decide) (lo_18 hL1) rfl rfl (by decide) (Nat.le_of_ble_eq_true rfl) (Nat.le_of_ble_eq_true rfl) dX6_leftOut_46 hB (fun r G2 hr => ?_)
      obtain ⟨r2, rfl, hE2, hB⟩ := hr
      have hL2 : Lay G2.2.2 := by rw [hE2]; exact hL1
      have hE2 : G2.2.2 = G.2.2 := hE2.trans hE1
      show Ev K mX6_leftOut 1 49 [(0, .ref 18), (1, .int x1), (2, .int x2)] [.int r2] G2 _
      refine E_if_eq (tgt := 54) dX6_leftOut_49 (by decide) (fun c => ?_) (fun c => ?_)
      · have hB := hB.1 c
        exact EvI.tr hB hE2
      · have hB := hB.2 c
        refine E_iload_n 2 dX6_leftOut_52 rfl rfl ?_
        exact E_iret rfl dX6_leftOut_53 ⟨_, rfl, hE2, hB⟩

set_option maxRecDepth 20000 in
set_option maxHeartbeats 2000000 in
theorem kX6_leftOut_54 {K : KT} {G : St} {Q : Int32 → St → Prop} {x1 : Int32} {x2 : Int32} (hL : Lay G.2.2) 
    (hB : EvI K mX6_leftOut 1 21 [(0, .ref 18), (1, .int x1), (2, .int (x2 + 1))] [] G Q) :
    EvI K mX6_leftOut 1 54 [(0, .ref 18), (1, .int x1), (2, .int x2)] [] G Q := by
  refine E_iinc (v := x2 + 1) (lv' := [(0, .ref 18), (1, .int x1), (2, .int (x2 + 1))]) 2 dX6_leftOut_54 rfl rfl (by decide) rfl ?_
  refine E_goto (tgt := 21) dX6_leftOut_57 (by decide) ?_
  exact EvI.tr hB rfl

set_option maxRecDepth 20000 in
set_option maxHeartbeats 2000000 in
theorem kX12_thrown_0 {K : KT} {G : St} {Q : Int32 → St → Prop}  (hL : Lay G.2.2) 
    (hB : Q (sI G 66 0) G) :
    EvI K mX12_thrown 0 0 [(0, .ref 66)] [] G Q := by
  refine E_aload_n 0 dX12_thrown_0 rfl rfl rfl ?_
  refine E_gI (v := sI G 66 0) fG_X12_1 rfl (lo_66 hL) rfl dX12_thrown_1 ?_
  exact E_iret rfl dX12_thrown_4 ⟨_, rfl, rfl, hB⟩

set_option maxRecDepth 20000 in
set_option maxHeartbeats 2000000 in
theorem kX12_lay_0 {K : KT} {G : St} {Q : St → Prop} {y1 : Int64} (hL : Lay G.2.2) 
    (hB : EvV K mX12_lay 0 3 [(0, .ref 66), (1, .long y1), (3, .int 56)] [] G Q) :
    EvV K mX12_lay 0 0 [(0, .ref 66), (1, .long y1)] [] G Q := by
  refine E_bipush (v := 56) dX12_lay_0 (by decide) ?_
  refine E_istore_n (lv' := [(0, .ref 66), (1, .long y1), (3, .int 56)]) dX12_lay_2 rfl (by decide) rfl ?_
  exact EvV.tr hB rfl

set_option maxRecDepth 20000 in
set_option maxHeartbeats 2000000 in
theorem kX12_lay_3 {K : KT} {G : St} {Q : St → Prop} {y1 : Int64} {x3 : Int32} (hL : Lay G.2.2) 
    (hB : ((x3 < 0 → Q G) ∧ (¬ x3 < 0 → ((((Int64.toInt32 (y1 >>> (Int32.toInt64 x3 &&& 63))) &&& 255) = 10 → EvV K mX12_lay 0 38 [(0, .ref 66), (1, .long y1), (3, .int x3), (4, .int ((Int64.toInt32 (y1 >>> (Int32.toInt64 x3 &&& 63))) &&& 255))] [] G Q) ∧ (¬ ((Int64.toInt32 (y1 >>> (Int32.toInt64 x3 &&& 63))) &&& 255) = 10 → ((((Int64.toInt32 (y1 >>> (Int32.toInt64 x3 &&& 63))) &&& 255) < 32 → EvV K mX12_lay 0 69 [(0, .ref 66), (1, .long y1), (3, .int x3)] [] G Q) ∧ (¬ ((Int64.toInt32 (y1 >>> (Int32.toInt64 x3 &&& 63))) &&& 255) < 32 → ((126 < ((Int64.toInt32 (y1 >>> (Int32.toInt64 x3 &&& 63))) &&& 255) → EvV K mX12_lay 0 69 [(0, .ref 66), (1, .long y1), (3, .int x3)] [] G Q) ∧ (¬ 126 < ((Int64.toInt32 (y1 >>> (Int32.toInt64 x3 &&& 63))) &&& 255) → EvV K mX12_lay 0 38 [(0, .ref 66), (1, .long y1), (3, .int x3), (4, .int ((Int64.toInt32 (y1 >>> (Int32.toInt64 x3 &&& 63))) &&& 255))] [] G Q))))))))) :
    EvV K mX12_lay 0 3 [(0, .ref 66), (1, .long y1), (3, .int x3)] [] G Q := by
  refine E_iload_n 2 dX12_lay_3 rfl rfl ?_
  refine E_if_lt (tgt := 75) dX12_lay_4 (by decide) (fun c => ?_) (fun c => ?_)
  · have hB := hB.1 c
    exact E_vret rfl dX12_lay_75 ⟨rfl, rfl, hB⟩
  · have hB := hB.2 c
    refine E_lload_n 1 dX12_lay_7 rfl rfl ?_
    refine E_iload_n 2 dX12_lay_8 rfl rfl ?_
    refine E_lshr dX12_lay_9 rfl ?_
    refine E_l2i dX12_lay_10 rfl ?_
    refine E_sipush (v := 255) dX12_lay_11 (by decide) ?_
    refine E_iand dX12_lay_14 ?_
    refine E_istore (lv' := [(0, .ref 66), (1, .long y1), (3, .int x3), (4, .int ((Int64.toInt32 (y1 >>> (Int32.toInt64 x3 &&& 63))) &&& 255))]) dX12_lay_15 (by decide) rfl ?_
    refine E_iload 3 dX12_lay_17 rfl ?_
    refine E_bipush (v := 10) dX12_lay_19 (by decide) ?_
    refine E_icmp_eq (tgt := 38) dX12_lay_21 (by decide) (fun c => ?_) (fun c => ?_)
    · have hB := hB.1 c
      exact EvV.tr hB rfl
    · have hB := hB.2 c
      refine E_iload 3 dX12_lay_24 rfl ?_
      refine E_bipush (v := 32) dX12_lay_26 (by decide) ?_
      refine E_icmp_lt (tgt := 69) dX12_lay_28 (by decide) (fun c => ?_) (fun c => ?_)
      · have hB := hB.1 c
        refine E_sub (lv' := [(0, .ref 66), (1, .long y1), (3, .int x3)]) [0, 1, 2] rfl ?_
        exact EvV.tr hB rfl
      · have hB := hB.2 c
        refine E_iload 3 dX12_lay_31 rfl ?_
        refine E_bipush (v := 126) dX12_lay_33 (by decide) ?_
        refine E_icmp_gt (tgt := 69) dX12_lay_35 (by decide) (fun c => ?_) (fun c => ?_)
        · have hB := hB.1 c
          refine E_sub (lv' := [(0, .ref 66), (1, .long y1), (3, .int x3)]) [0, 1, 2] rfl ?_
          exact EvV.tr hB rfl
        · have hB := hB.2 c
          exact EvV.tr hB rfl

set_option maxRecDepth 20000 in
set_option maxHeartbeats 2000000 in
theorem kX12_lay_38 {K : KT} {G : St} {Q : St → Prop} {y1 : Int64} {x3 : Int32} {x4 : Int32} (hL : Lay G.2.2) 
    (hB : ((1000 ≤ (sI G 66 2) → EvV K mX12_lay 0 69 [(0, .ref 66), (1, .long y1), (3, .int x3)] [] G Q) ∧ (¬ 1000 ≤ (sI G 66 2) → vp_in (sI G 66 2) 1000 ∧ EvV K mX12_lay 0 69 [(0, .ref 66), (1, .long y1), (3, .int x3)] [] (uI (uI G 67 (Int32.toNatClampNeg (sI G 66 2)) x4) 66 2 ((sI G 66 2) + 1)) Q))) :
    EvV K mX12_lay 0 38 [(0, .ref 66), (1, .long y1), (3, .int x3), (4, .int x4)] [] G Q := by
  refine E_aload_n 0 dX12_lay_38 rfl rfl rfl ?_
  refine E_gI (v := sI G 66 2) fG_X12_11 rfl (lo_66 hL) rfl dX12_lay_39 ?_
  refine E_sipush (v := 1000) dX12_lay_42 (by decide) ?_
  refine E_icmp_ge (tgt := 69) dX12_lay_45 (by decide) (fun c => ?_) (fun c => ?_)
  · have hB := hB.1 c
    refine E_sub (lv' := [(0, .ref 66), (1, .long y1), (3, .int x3)]) [0, 1, 2] rfl ?_
    exact EvV.tr hB rfl
  · have hB := hB.2 c
    refine E_aload_n 0 dX12_lay_48 rfl rfl rfl ?_
    refine E_gR (j := 67) fG_X12_14 rfl (lo_66 hL) (lr_66_1 hL) (by decide) dX12_lay_49 ?_
    refine E_aload_n 0 dX12_lay_52 rfl rfl rfl ?_
    refine E_gI (v := sI G 66 2) fG_X12_11 rfl (lo_66 hL) rfl dX12_lay_53 ?_
    refine E_iload 3 dX12_lay_56 rfl ?_
    obtain ⟨qq1, hB⟩ := hB
    refine E_sI (p := Int32.toNatClampNeg (sI G 66 2)) (la_67 hL) qq1 rfl dX12_lay_58 ?_
    refine E_aload_n 0 dX12_lay_59 rfl rfl rfl ?_
    refine E_dup dX12_lay_60 rfl ?_
    refine E_gI (v := sI G 66 2) fG_X12_11 rfl (lo_66 hL) rfl dX12_lay_61 ?_
    refine E_iconst (v := 1) dX12_lay_64 (by decide) ?_
    refine E_iadd dX12_lay_65 ?_
    refine E_pI fP_X12_11 rfl (lo_66 hL) dX12_lay_66 ?_
    refine E_sub (lv' := [(0, .ref 66), (1, .long y1), (3, .int x3)]) [0, 1, 2] rfl ?_
    exact EvV.tr hB rfl

set_option maxRecDepth 20000 in
set_option maxHeartbeats 2000000 in
theorem kX12_lay_69 {K : KT} {G : St} {Q : St → Prop} {y1 : Int64} {x3 : Int32} (hL : Lay G.2.2) 
    (hB : EvV K mX12_lay 0 3 [(0, .ref 66), (1, .long y1), (3, .int (x3 + (-8)))] [] G Q) :
    EvV K mX12_lay 0 69 [(0, .ref 66), (1, .long y1), (3, .int x3)] [] G Q := by
  refine E_iinc (v := x3 + (-8)) (lv' := [(0, .ref 66), (1, .long y1), (3, .int (x3 + (-8)))]) 2 dX12_lay_69 rfl rfl (by decide) rfl ?_
  refine E_goto (tgt := 3) dX12_lay_72 (by decide) ?_
  exact EvV.tr hB rfl

set_option maxRecDepth 20000 in
set_option maxHeartbeats 2000000 in
theorem kX12_feed_0 {K : KT} {G : St} {Q : Int32 → St → Prop} {y1 : Int64} {y3 : Int64} {y5 : Int64} (hL : Lay G.2.2) 
    (hB : EvV K mX12_lay 0 0 [(0, .ref 66), (1, .long y1)] [] (uI G 66 0 0) (fun G1 => EvV K mX12_lay 0 0 [(0, .ref 66), (1, .long y3)] [] G1 (fun G2 => EvV K mX12_lay 0 0 [(0, .ref 66), (1, .long y5)] [] G2 (fun G3 => Q (sI G3 66 2) G3)))) :
    EvI K mX12_feed 1 0 [(0, .ref 66), (1, .long y1), (3, .long y3), (5, .long y5)] [] G Q := by
  refine E_aload_n 0 dX12_feed_0 rfl rfl rfl ?_
  refine E_iconst (v := 0) dX12_feed_1 (by decide) ?_
  refine E_pI fP_X12_1 rfl (lo_66 hL) dX12_feed_2 ?_
  refine E_aload_n 0 dX12_feed_5 rfl rfl rfl ?_
  refine E_lload_n 1 dX12_feed_6 rfl rfl ?_
  refine E_cV (ci := 11) (as := [.long y1]) (st := []) cm_X12_lay cV_X12_7 ⟨_, _, rfl⟩ (by decide) (lo_66 hL) rfl rfl (by decide) (Nat.le_of_ble_eq_true rfl) (Nat.le_of_ble_eq_true rfl) dX12_feed_7 hB (fun r G1 hr => ?_)
  obtain ⟨rfl, hE1, hB⟩ := hr
  have hL1 : Lay G1.2.2 := by rw [hE1]; exact hL
  have hE1 : G1.2.2 = G.2.2 := hE1
  show Ev K mX12_feed 1 10 [(0, .ref 66), (1, .long y1), (3, .long y3), (5, .long y5)] [] G1 _
  refine E_aload_n 0 dX12_feed_10 rfl rfl rfl ?_
  refine E_lload_n 2 dX12_feed_11 rfl rfl ?_
  refine E_cV (ci := 11) (as := [.long y3]) (st := []) cm_X12_lay cV_X12_7 ⟨_, _, rfl⟩ (by decide) (lo_66 hL1) rfl rfl (by decide) (Nat.le_of_ble_eq_true rfl) (Nat.le_of_ble_eq_true rfl) dX12_feed_12 hB (fun r G2 hr => ?_)
  obtain ⟨rfl, hE2, hB⟩ := hr
  have hL2 : Lay G2.2.2 := by rw [hE2]; exact hL1
  have hE2 : G2.2.2 = G.2.2 := hE2.trans hE1
  show Ev K mX12_feed 1 15 [(0, .ref 66), (1, .long y1), (3, .long y3), (5, .long y5)] [] G2 _
  refine E_aload_n 0 dX12_feed_15 rfl rfl rfl ?_
  refine E_lload 3 dX12_feed_16 rfl ?_
  refine E_cV (ci := 11) (as := [.long y5]) (st := []) cm_X12_lay cV_X12_7 ⟨_, _, rfl⟩ (by decide) (lo_66 hL2) rfl rfl (by decide) (Nat.le_of_ble_eq_true rfl) (Nat.le_of_ble_eq_true rfl) dX12_feed_18 hB (fun r G3 hr => ?_)
  obtain ⟨rfl, hE3, hB⟩ := hr
  have hL3 : Lay G3.2.2 := by rw [hE3]; exact hL2
  have hE3 : G3.2.2 = G.2.2 := hE3.trans hE2
  show Ev K mX12_feed 1 21 [(0, .ref 66), (1, .long y1), (3, .long y3), (5, .long y5)] [] G3 _
  refine E_aload_n 0 dX12_feed_21 rfl rfl rfl ?_
  refine E_gI (v := sI G3 66 2) fG_X12_11 rfl (lo_66 hL3) rfl dX12_feed_22 ?_
  exact E_iret rfl dX12_feed_25 ⟨_, rfl, hE3, hB⟩

set_option maxRecDepth 20000 in
set_option maxHeartbeats 2000000 in
theorem kX12_isLetter_0 {K : KT} {G : St} {Q : Int32 → St → Prop} {x0 : Int32} (hL : Lay G.2.2) 
    (hB : ((x0 < 97 → Q 0 G) ∧ (¬ x0 < 97 → ((122 < x0 → Q 0 G) ∧ (¬ 122 < x0 → Q 1 G))))) :
    EvI K mX12_isLetter 0 0 [(0, .int x0)] [] G Q := by
  refine E_iload_n 0 dX12_isLetter_0 rfl rfl ?_
  refine E_bipush (v := 97) dX12_isLetter_1 (by decide) ?_
  refine E_icmp_lt (tgt := 16) dX12_isLetter_3 (by decide) (fun c => ?_) (fun c => ?_)
  · have hB := hB.1 c
    refine E_iconst (v := 0) dX12_isLetter_16 (by decide) ?_
    exact E_zret rfl (Or.inl rfl) dX12_isLetter_17 ⟨_, rfl, rfl, hB⟩
  · have hB := hB.2 c
    refine E_iload_n 0 dX12_isLetter_6 rfl rfl ?_
    refine E_bipush (v := 122) dX12_isLetter_7 (by decide) ?_
    refine E_icmp_gt (tgt := 16) dX12_isLetter_9 (by decide) (fun c => ?_) (fun c => ?_)
    · have hB := hB.1 c
      refine E_iconst (v := 0) dX12_isLetter_16 (by decide) ?_
      exact E_zret rfl (Or.inl rfl) dX12_isLetter_17 ⟨_, rfl, rfl, hB⟩
    · have hB := hB.2 c
      refine E_iconst (v := 1) dX12_isLetter_12 (by decide) ?_
      refine E_goto (tgt := 17) dX12_isLetter_13 (by decide) ?_
      exact E_zret rfl (Or.inr rfl) dX12_isLetter_17 ⟨_, rfl, rfl, hB⟩

set_option maxRecDepth 20000 in
set_option maxHeartbeats 2000000 in
theorem kX12_isDigit_0 {K : KT} {G : St} {Q : Int32 → St → Prop} {x0 : Int32} (hL : Lay G.2.2) 
    (hB : ((x0 < 48 → Q 0 G) ∧ (¬ x0 < 48 → ((57 < x0 → Q 0 G) ∧ (¬ 57 < x0 → Q 1 G))))) :
    EvI K mX12_isDigit 0 0 [(0, .int x0)] [] G Q := by
  refine E_iload_n 0 dX12_isDigit_0 rfl rfl ?_
  refine E_bipush (v := 48) dX12_isDigit_1 (by decide) ?_
  refine E_icmp_lt (tgt := 16) dX12_isDigit_3 (by decide) (fun c => ?_) (fun c => ?_)
  · have hB := hB.1 c
    refine E_iconst (v := 0) dX12_isDigit_16 (by decide) ?_
    exact E_zret rfl (Or.inl rfl) dX12_isDigit_17 ⟨_, rfl, rfl, hB⟩
  · have hB := hB.2 c
    refine E_iload_n 0 dX12_isDigit_6 rfl rfl ?_
    refine E_bipush (v := 57) dX12_isDigit_7 (by decide) ?_
    refine E_icmp_gt (tgt := 16) dX12_isDigit_9 (by decide) (fun c => ?_) (fun c => ?_)
    · have hB := hB.1 c
      refine E_iconst (v := 0) dX12_isDigit_16 (by decide) ?_
      exact E_zret rfl (Or.inl rfl) dX12_isDigit_17 ⟨_, rfl, rfl, hB⟩
    · have hB := hB.2 c
      refine E_iconst (v := 1) dX12_isDigit_12 (by decide) ?_
      refine E_goto (tgt := 17) dX12_isDigit_13 (by decide) ?_
      exact E_zret rfl (Or.inr rfl) dX12_isDigit_17 ⟨_, rfl, rfl, hB⟩

set_option maxRecDepth 20000 in
set_option maxHeartbeats 2000000 in
theorem kX12_rank_0 {K : KT} {G : St} {Q : Int32 → St → Prop} {x0 : Int32} (hL : Lay G.2.2) 
    (hB : Q (x0 - 96) G) :
    EvI K mX12_rank 0 0 [(0, .int x0)] [] G Q := by
  refine E_iload_n 0 dX12_rank_0 rfl rfl ?_
  refine E_bipush (v := 96) dX12_rank_1 (by decide) ?_
  refine E_isub dX12_rank_3 ?_
  exact E_iret rfl dX12_rank_4 ⟨_, rfl, rfl, hB⟩

set_option maxRecDepth 20000 in
set_option maxHeartbeats 2000000 in
theorem kX12_isSignOf_0 {K : KT} {G : St} {Q : Int32 → St → Prop} {x0 : Int32} (hL : Lay G.2.2) 
    (hB : ((x0 = 44 → Q 1 G) ∧ (¬ x0 = 44 → ((x0 = 58 → Q 1 G) ∧ (¬ x0 = 58 → ((¬ x0 = 59 → Q 0 G) ∧ (x0 = 59 → Q 1 G))))))) :
    EvI K mX12_isSignOf 0 0 [(0, .int x0)] [] G Q := by
  refine E_iload_n 0 dX12_isSignOf_0 rfl rfl ?_
  refine E_bipush (v := 44) dX12_isSignOf_1 (by decide) ?_
  refine E_icmp_eq (tgt := 18) dX12_isSignOf_3 (by decide) (fun c => ?_) (fun c => ?_)
  · have hB := hB.1 c
    refine E_iconst (v := 1) dX12_isSignOf_18 (by decide) ?_
    refine E_goto (tgt := 23) dX12_isSignOf_19 (by decide) ?_
    exact E_zret rfl (Or.inr rfl) dX12_isSignOf_23 ⟨_, rfl, rfl, hB⟩
  · have hB := hB.2 c
    refine E_iload_n 0 dX12_isSignOf_6 rfl rfl ?_
    refine E_bipush (v := 58) dX12_isSignOf_7 (by decide) ?_
    refine E_icmp_eq (tgt := 18) dX12_isSignOf_9 (by decide) (fun c => ?_) (fun c => ?_)
    · have hB := hB.1 c
      refine E_iconst (v := 1) dX12_isSignOf_18 (by decide) ?_
      refine E_goto (tgt := 23) dX12_isSignOf_19 (by decide) ?_
      exact E_zret rfl (Or.inr rfl) dX12_isSignOf_23 ⟨_, rfl, rfl, hB⟩
    · have hB := hB.2 c
      refine E_iload_n 0 dX12_isSignOf_12 rfl rfl ?_
      refine E_bipush (v := 59) dX12_isSignOf_13 (by decide) ?_
      refine E_icmp_ne (tgt := 22) dX12_isSignOf_15 (by decide) (fun c => ?_) (fun c => ?_)
      · have hB := hB.1 c
        refine E_iconst (v := 0) dX12_isSignOf_22 (by decide) ?_
        exact E_zret rfl (Or.inl rfl) dX12_isSignOf_23 ⟨_, rfl, rfl, hB⟩
      · have hB := hB.2 c
        refine E_iconst (v := 1) dX12_isSignOf_18 (by decide) ?_
        refine E_goto (tgt := 23) dX12_isSignOf_19 (by decide) ?_
        exact E_zret rfl (Or.inr rfl) dX12_isSignOf_23 ⟨_, rfl, rfl, hB⟩

set_option maxRecDepth 20000 in
set_option maxHeartbeats 2000000 in
theorem kX12_cutAll_0 {K : KT} {G : St} {Q : St → Prop}  (hL : Lay G.2.2) 
    (hB : EvV K mX12_cutAll 1 17 [(0, .ref 66), (1, .int 0), (2, .int 0)] [] (uI (uI G 66 3 (sI G 66 2)) 66 2 0) Q) :
    EvV K mX12_cutAll 1 0 [(0, .ref 66)] [] G Q := by
  refine E_aload_n 0 dX12_cutAll_0 rfl rfl rfl ?_
  refine E_aload_n 0 dX12_cutAll_1 rfl rfl rfl ?_
  refine E_gI (v := sI G 66 2) fG_X12_11 rfl (lo_66 hL) rfl dX12_cutAll_2 ?_
  refine E_pI fP_X12_156 rfl (lo_66 hL) dX12_cutAll_5 ?_
  refine E_aload_n 0 dX12_cutAll_8 rfl rfl rfl ?_
  refine E_iconst (v := 0) dX12_cutAll_9 (by decide) ?_
  refine E_pI fP_X12_11 rfl (lo_66 hL) dX12_cutAll_10 ?_
  refine E_iconst (v := 0) dX12_cutAll_13 (by decide) ?_
  refine E_istore_n (lv' := [(0, .ref 66), (1, .int 0)]) dX12_cutAll_14 rfl (by decide) rfl ?_
  refine E_iconst (v := 0) dX12_cutAll_15 (by decide) ?_
  refine E_istore_n (lv' := [(0, .ref 66), (1, .int 0), (2, .int 0)]) dX12_cutAll_16 rfl (by decide) rfl ?_
  exact EvV.tr hB rfl

set_option maxRecDepth 20000 in
set_option maxHeartbeats 2000000 in
theorem kX12_cutAll_17 {K : KT} {G : St} {Q : St → Prop} {x1 : Int32} {x2 : Int32} (hL : Lay G.2.2) 
    (hB : (((sI G 66 3) ≤ x2 → vp_in x1 1002 ∧ vp_in x1 1002 ∧ Q (uI (uI (uI (uI G 68 (Int32.toNatClampNeg x1) 0) 69 (Int32.toNatClampNeg x1) (sI G 66 3)) 66 7 0) 66 8 0)) ∧ (¬ (sI G 66 3) ≤ x2 → vp_in x2 1000 ∧ (((sI G 67 (Int32.toNatClampNeg x2)) = 10 → EvV K mX12_cutAll 1 44 [(0, .ref 66), (1, .int x1), (2, .int x2)] [] G Q) ∧ (¬ (sI G 67 (Int32.toNatClampNeg x2)) = 10 → ((¬ (sI G 67 (Int32.toNatClampNeg x2)) = 32 → vp_in x1 1002 ∧ EvI K mX12_isLetter 0 0 [(0, .int (sI G 67 (Int32.toNatClampNeg x2)))] [] (uI G 69 (Int32.toNatClampNeg x1) x2) (fun r5 G5 => ((r5 = 0 → EvI K mX12_isDigit 0 0 [(0, .int (sI G 67 (Int32.toNatClampNeg x2)))] [] G5 (fun r6 G6 => ((r6 = 0 → EvI K mX12_isSignOf 0 0 [(0, .int (sI G 67 (Int32.toNatClampNeg x2)))] [] G6 (fun r7 G7 => ((r7 = 0 → vp_in x1 1002 ∧ EvV K mX12_cutAll 1 265 [(0, .ref 66), (1, .int x1), (2, .int (x2 + 1)), (5, .long (Int32.toInt64 (sI G 67 (Int32.toNatClampNeg x2))))] [] (uI G7 68 (Int32.toNatClampNeg x1) 4) Q) ∧ (¬ r7 = 0 → vp_in x1 1002 ∧ EvV K mX12_cutAll 1 265 [(0, .ref 66), (1, .int x1), (2, .int (x2 + 1)), (5, .long (Int32.toInt64 (sI G 67 (Int32.toNatClampNeg x2))))] [] (uI G7 68 (Int32.toNatClampNeg x1) 3) Q)))) ∧ (¬ r6 = 0 → EvV K mX12_cutAll 1 159 [(0, .ref 66), (1, .int x1), (2, .int x2), (4, .int x2), (5, .long 0)] [] G6 Q)))) ∧ (¬ r5 = 0 → EvV K mX12_cutAll 1 70 [(0, .ref 66), (1, .int x1), (2, .int x2), (4, .int x2), (5, .long 0)] [] G5 Q)))) ∧ ((sI G 67 (Int32.toNatClampNeg x2)) = 32 → EvV K mX12_cutAll 1 44 [(0, .ref 66), (1, .int x1), (2, .int x2)] [] G Q))))))) :
    EvV K mX12_cutAll 1 17 [(0, .ref 66), (1, .int x1), (2, .int x2)] [] G Q := by
  refine E_iload_n 2 dX12_cutAll_17 rfl rfl ?_
  refine E_aload_n 0 dX12_cutAll_18 rfl rfl rfl ?_
  refine E_gI (v := sI G 66 3) fG_X12_156 rfl (lo_66 hL) rfl dX12_cutAll_19 ?_
  refine E_icmp_ge (tgt := 279) dX12_cutAll_22 (by decide) (fun c => ?_) (fun c => ?_)
  · have hB := hB.1 c
    refine E_aload_n 0 dX12_cutAll_279 rfl rfl rfl ?_
    refine E_gR (j := 68) fG_X12_24 rfl (lo_66 hL) (lr_66_4 hL) (by decide) dX12_cutAll_280 ?_
    refine E_iload_n 1 dX12_cutAll_283 rfl rfl ?_
    refine E_iconst (v := 0) dX12_cutAll_284 (by decide) ?_
    obtain ⟨qq1, hB⟩ := hB
    refine E_sI (p := Int32.toNatClampNeg x1) (la_68 hL) qq1 rfl dX12_cutAll_285 ?_
    refine E_aload_n 0 dX12_cutAll_286 rfl rfl rfl ?_
    refine E_gR (j := 69) fG_X12_27 rfl (lo_66 hL) (lr_66_5 hL) (by decide) dX12_cutAll_287 ?_
    refine E_iload_n 1 dX12_cutAll_290 rfl rfl ?_
    refine E_aload_n 0 dX12_cutAll_291 rfl rfl rfl ?_
    refine E_gI (v := sI G 66 3) fG_X12_156 rfl (lo_66 hL) rfl dX12_cutAll_292 ?_
    obtain ⟨qq2, hB⟩ := hB
    refine E_sI (p := Int32.toNatClampNeg x1) (la_69 hL) qq2 rfl dX12_cutAll_295 ?_
    refine E_aload_n 0 dX12_cutAll_296 rfl rfl rfl ?_
    refine E_iconst (v := 0) dX12_cutAll_297 (by decide) ?_
    refine E_pI fP_X12_179 rfl (lo_66 hL) dX12_cutAll_298 ?_
    refine E_aload_n 0 dX12_cutAll_301 rfl rfl rfl ?_
    refine E_iconst (v := 0) dX12_cutAll_302 (by decide) ?_
    refine E_pI fP_X12_182 rfl (lo_66 hL) dX12_cutAll_303 ?_
    exact E_vret rfl dX12_cutAll_306 ⟨rfl, rfl, hB⟩
  · have hB := hB.2 c
    refine E_aload_n 0 dX12_cutAll_25 rfl rfl rfl ?_
    refine E_gR (j := 67) fG_X12_14 rfl (lo_66 hL) (lr_66_1 hL) (by decide) dX12_cutAll_26 ?_
    refine E_iload_n 2 dX12_cutAll_29 rfl rfl ?_
    obtain ⟨qq3, hB⟩ := hB
    refine E_aI (p := Int32.toNatClampNeg x2) (v := sI G 67 (Int32.toNatClampNeg x2)) (la_67 hL) qq3 rfl rfl dX12_cutAll_30 ?_
    refine E_istore_n (lv' := [(0, .ref 66), (1, .int x1), (2, .int x2), (3, .int (sI G 67 (Int32.toNatClampNeg x2)))]) dX12_cutAll_31 rfl (by decide) rfl ?_
    refine E_iload_n 3 dX12_cutAll_32 rfl rfl ?_
    refine E_bipush (v := 10) dX12_cutAll_33 (by decide) ?_
    refine E_icmp_eq (tgt := 44) dX12_cutAll_35 (by decide) (fun c => ?_) (fun c => ?_)
    · have hB := hB.1 c
      refine E_sub (lv' := [(0, .ref 66), (1, .int x1), (2, .int x2)]) [0, 1, 2] rfl ?_
      exact EvV.tr hB rfl
    · have hB := hB.2 c
      refine E_iload_n 3 dX12_cutAll_38 rfl rfl ?_
      refine E_bipush (v := 32) dX12_cutAll_39 (by decide) ?_
      refine E_icmp_ne (tgt := 50) dX12_cutAll_41 (by decide) (fun c => ?_) (fun c => ?_)
      · have hB := hB.1 c
        refine E_iload_n 2 dX12_cutAll_50 rfl rfl ?_
        refine E_istore (lv' := [(0, .ref 66), (1, .int x1), (2, .int x2), (3, .int (sI G 67 (Int32.toNatClampNeg x2))), (4, .int x2)]) dX12_cutAll_51 (by decide) rfl ?_
        refine E_lconst (v := 0) dX12_cutAll_53 (by decide) ?_
        refine E_lstore (lv' := [(0, .ref 66), (1, .int x1), (2, .int x2), (3, .int (sI G 67 (Int32.toNatClampNeg x2))), (4, .int x2), (5, .long 0)]) dX12_cutAll_54 (by decide) rfl ?_
        refine E_aload_n 0 dX12_cutAll_56 rfl rfl rfl ?_
        refine E_gR (j := 69) fG_X12_27 rfl (lo_66 hL) (lr_66_5 hL) (by decide) dX12_cutAll_57 ?_
        refine E_iload_n 1 dX12_cutAll_60 rfl rfl ?_
        refine E_iload_n 2 dX12_cutAll_61 rfl rfl ?_
        obtain ⟨qq4, hB⟩ := hB
        refine E_sI (p := Int32.toNatClampNeg x1) (la_69 hL) qq4 rfl dX12_cutAll_62 ?_
        refine E_iload_n 3 dX12_cutAll_63 rfl rfl ?_
        refine E_callS (as := [.int (sI G 67 (Int32.toNatClampNeg x2))]) (st := []) cm_X12_isLetter cS_X12_159 rfl rfl (by decide) (Nat.le_of_ble_eq_true rfl) (Nat.le_of_ble_eq_true rfl) dX12_cutAll_64 hB (fun r G5 hr => ?_)
        obtain ⟨r5, rfl, hE5, hB⟩ := hr
        have hL5 : Lay G5.2.2 := by rw [hE5]; exact hL
        have hE5 : G5.2.2 = G.2.2 := hE5
        show Ev K mX12_cutAll 1 67 [(0, .ref 66), (1, .int x1), (2, .int x2), (3, .int (sI G 67 (Int32.toNatClampNeg x2))), (4, .int x2), (5, .long 0)] [.int r5] G5 _
        refine E_if_eq (tgt := 152) dX12_cutAll_67 (by decide) (fun c => ?_) (fun c => ?_)
        · have hB := hB.1 c
          refine E_iload_n 3 dX12_cutAll_152 rfl rfl ?_
          refine E_callS (as := [.int (sI G 67 (Int32.toNatClampNeg x2))]) (st := []) cm_X12_isDigit cS_X12_169 rfl rfl (by decide) (Nat.le_of_ble_eq_true rfl) (Nat.le_of_ble_eq_true rfl) dX12_cutAll_153 hB (fun r G6 hr => ?_)
          obtain ⟨r6, rfl, hE6, hB⟩ := hr
          have hL6 : Lay G6.2.2 := by rw [hE6]; exact hL5
          have hE6 : G6.2.2 = G.2.2 := hE6.trans hE5
          show Ev K mX12_cutAll 1 156 [(0, .ref 66), (1, .int x1), (2, .int x2), (3, .int (sI G 67 (Int32.toNatClampNeg x2))), (4, .int x2), (5, .long 0)] [.int r6] G6 _
          refine E_if_eq (tgt := 240) dX12_cutAll_156 (by decide) (fun c => ?_) (fun c => ?_)
          · have hB := hB.1 c
            refine E_iload_n 3 dX12_cutAll_240 rfl rfl ?_
            refine E_i2l dX12_cutAll_241 rfl ?_
            refine E_lstore (lv' := [(0, .ref 66), (1, .int x1), (2, .int x2), (3, .int (sI G 67 (Int32.toNatClampNeg x2))), (4, .int x2), (5, .long (Int32.toInt64 (sI G 67 (Int32.toNatClampNeg x2))))]) dX12_cutAll_242 (by decide) rfl ?_
            refine E_aload_n 0 dX12_cutAll_244 rfl rfl rfl ?_
            refine E_gR (j := 68) fG_X12_24 rfl (lo_66 hL6) (lr_66_4 hL6) (by decide) dX12_cutAll_245 ?_
            refine E_iload_n 1 dX12_cutAll_248 rfl rfl ?_
            refine E_iload_n 3 dX12_cutAll_249 rfl rfl ?_
            refine E_callS (as := [.int (sI G 67 (Int32.toNatClampNeg x2))]) (st := [.int x1, .ref 68]) cm_X12_isSignOf cS_X12_176 rfl rfl (by decide) (Nat.le_of_ble_eq_true rfl) (Nat.le_of_ble_eq_true rfl) dX12_cutAll_250 hB (fun r G7 hr => ?_)
            obtain ⟨r7, rfl, hE7, hB⟩ := hr
            have hL7 : Lay G7.2.2 := by rw [hE7]; exact hL6
            have hE7 : G7.2.2 = G.2.2 := hE7.trans hE6
            show Ev K mX12_cutAll 1 253 [(0, .ref 66), (1, .int x1), (2, .int x2), (3, .int (sI G 67 (Int32.toNatClampNeg x2))), (4, .int x2), (5, .long (Int32.toInt64 (sI G 67 (Int32.toNatClampNeg x2))))] [.int r7, .int x1, .ref 68] G7 _
            refine E_if_eq (tgt := 260) dX12_cutAll_253 (by decide) (fun c => ?_) (fun c => ?_)
            · have hB := hB.1 c
              refine E_iconst (v := 4) dX12_cutAll_260 (by decide) ?_
              obtain ⟨qq8, hB⟩ := hB
              refine E_sI (p := Int32.toNatClampNeg x1) (la_68 hL7) qq8 rfl dX12_cutAll_261 ?_
              refine E_iinc (v := x2 + 1) (lv' := [(0, .ref 66), (1, .int x1), (2, .int (x2 + 1)), (3, .int (sI G 67 (Int32.toNatClampNeg x2))), (4, .int x2), (5, .long (Int32.toInt64 (sI G 67 (Int32.toNatClampNeg x2))))]) 2 dX12_cutAll_262 rfl rfl (by decide) rfl ?_
              refine E_sub (lv' := [(0, .ref 66), (1, .int x1), (2, .int (x2 + 1)), (5, .long (Int32.toInt64 (sI G 67 (Int32.toNatClampNeg x2))))]) [0, 1, 2, 5] rfl ?_
              exact EvV.tr hB hE7
            · have hB := hB.2 c
              refine E_iconst (v := 3) dX12_cutAll_256 (by decide) ?_
              refine E_goto (tgt := 261) dX12_cutAll_257 (by decide) ?_
              obtain ⟨qq9, hB⟩ := hB
              refine E_sI (p := Int32.toNatClampNeg x1) (la_68 hL7) qq9 rfl dX12_cutAll_261 ?_
              refine E_iinc (v := x2 + 1) (lv' := [(0, .ref 66), (1, .int x1), (2, .int (x2 + 1)), (3, .int (sI G 67 (Int32.toNatClampNeg x2))), (4, .int x2), (5, .long (Int32.toInt64 (sI G 67 (Int32.toNatClampNeg x2))))]) 2 dX12_cutAll_262 rfl rfl (by decide) rfl ?_
              refine E_sub (lv' := [(0, .ref 66), (1, .int x1), (2, .int (x2 + 1)), (5, .long (Int32.toInt64 (sI G 67 (Int32.toNatClampNeg x2))))]) [0, 1, 2, 5] rfl ?_
              exact EvV.tr hB hE7
          · have hB := hB.2 c
            refine E_sub (lv' := [(0, .ref 66), (1, .int x1), (2, .int x2), (4, .int x2), (5, .long 0)]) [0, 1, 2, 4, 5] rfl ?_
            exact EvV.tr hB hE6
        · have hB := hB.2 c
          refine E_sub (lv' := [(0, .ref 66), (1, .int x1), (2, .int x2), (4, .int x2), (5, .long 0)]) [0, 1, 2, 4, 5] rfl ?_
          exact EvV.tr hB hE5
      · have hB := hB.2 c
        refine E_sub (lv' := [(0, .ref 66), (1, .int x1), (2, .int x2)]) [0, 1, 2] rfl ?_
        exact EvV.tr hB rfl

set_option maxRecDepth 20000 in
set_option maxHeartbeats 2000000 in
theorem kX12_cutAll_44 {K : KT} {G : St} {Q : St → Prop} {x1 : Int32} {x2 : Int32} (hL : Lay G.2.2) 
    (hB : EvV K mX12_cutAll 1 17 [(0, .ref 66), (1, .int x1), (2, .int (x2 + 1))] [] G Q) :
    EvV K mX12_cutAll 1 44 [(0, .ref 66), (1, .int x1), (2, .int x2)] [] G Q := by
  refine E_iinc (v := x2 + 1) (lv' := [(0, .ref 66), (1, .int x1), (2, .int (x2 + 1))]) 2 dX12_cutAll_44 rfl rfl (by decide) rfl ?_
  refine E_goto (tgt := 17) dX12_cutAll_47 (by decide) ?_
  exact EvV.tr hB rfl

set_option maxRecDepth 20000 in
set_option maxHeartbeats 2000000 in
theorem kX12_cutAll_70 {K : KT} {G : St} {Q : St → Prop} {x1 : Int32} {x2 : Int32} {x4 : Int32} {y5 : Int64} (hL : Lay G.2.2) 
    (hB : (((sI G 66 3) ≤ x2 → EvV K mX12_cutAll 1 129 [(0, .ref 66), (1, .int x1), (2, .int x2), (4, .int x4), (5, .long y5)] [] G Q) ∧ (¬ (sI G 66 3) ≤ x2 → vp_in x2 1000 ∧ EvI K mX12_isLetter 0 0 [(0, .int (sI G 67 (Int32.toNatClampNeg x2)))] [] G (fun r2 G2 => ((r2 = 0 → EvV K mX12_cutAll 1 129 [(0, .ref 66), (1, .int x1), (2, .int x2), (4, .int x4), (5, .long y5)] [] G2 Q) ∧ (¬ r2 = 0 → ((8 ≤ (x2 - x4) → EvV K mX12_cutAll 1 121 [(0, .ref 66), (1, .int x1), (2, .int x2), (4, .int x4)] [.long y5] G2 Q) ∧ (¬ 8 ≤ (x2 - x4) → vp_in x2 1000 ∧ EvI K mX12_rank 0 0 [(0, .int (sI G2 67 (Int32.toNatClampNeg x2)))] [] G2 (fun r4 G4 => EvV K mX12_cutAll 1 121 [(0, .ref 66), (1, .int x1), (2, .int x2), (4, .int x4)] [.long ((27 * y5) + (Int32.toInt64 r4))] G4 Q))))))))) :
    EvV K mX12_cutAll 1 70 [(0, .ref 66), (1, .int x1), (2, .int x2), (4, .int x4), (5, .long y5)] [] G Q := by
  refine E_iload_n 2 dX12_cutAll_70 rfl rfl ?_
  refine E_aload_n 0 dX12_cutAll_71 rfl rfl rfl ?_
  refine E_gI (v := sI G 66 3) fG_X12_156 rfl (lo_66 hL) rfl dX12_cutAll_72 ?_
  refine E_icmp_ge (tgt := 129) dX12_cutAll_75 (by decide) (fun c => ?_) (fun c => ?_)
  · have hB := hB.1 c
    exact EvV.tr hB rfl
  · have hB := hB.2 c
    refine E_aload_n 0 dX12_cutAll_78 rfl rfl rfl ?_
    refine E_gR (j := 67) fG_X12_14 rfl (lo_66 hL) (lr_66_1 hL) (by decide) dX12_cutAll_79 ?_
    refine E_iload_n 2 dX12_cutAll_82 rfl rfl ?_
    obtain ⟨qq1, hB⟩ := hB
    refine E_aI (p := Int32.toNatClampNeg x2) (v := sI G 67 (Int32.toNatClampNeg x2)) (la_67 hL) qq1 rfl rfl dX12_cutAll_83 ?_
    refine E_callS (as := [.int (sI G 67 (Int32.toNatClampNeg x2))]) (st := []) cm_X12_isLetter cS_X12_159 rfl rfl (by decide) (Nat.le_of_ble_eq_true rfl) (Nat.le_of_ble_eq_true rfl) dX12_cutAll_84 hB (fun r G2 hr => ?_)
    obtain ⟨r2, rfl, hE2, hB⟩ := hr
    have hL2 : Lay G2.2.2 := by rw [hE2]; exact hL
    have hE2 : G2.2.2 = G.2.2 := hE2
    show Ev K mX12_cutAll 1 87 [(0, .ref 66), (1, .int x1), (2, .int x2), (4, .int x4), (5, .long y5)] [.int r2] G2 _
    refine E_if_eq (tgt := 129) dX12_cutAll_87 (by decide) (fun c => ?_) (fun c => ?_)
    · have hB := hB.1 c
      exact EvV.tr hB hE2
    · have hB := hB.2 c
      refine E_iload_n 2 dX12_cutAll_90 rfl rfl ?_
      refine E_iload 3 dX12_cutAll_91 rfl ?_
      refine E_isub dX12_cutAll_93 ?_
      refine E_bipush (v := 8) dX12_cutAll_94 (by decide) ?_
      refine E_icmp_ge (tgt := 119) dX12_cutAll_96 (by decide) (fun c => ?_) (fun c => ?_)
      · have hB := hB.1 c
        refine E_lload 4 dX12_cutAll_119 rfl ?_
        refine E_sub (lv' := [(0, .ref 66), (1, .int x1), (2, .int x2), (4, .int x4)]) [0, 1, 2, 3] rfl ?_
        exact EvV.tr hB hE2
      · have hB := hB.2 c
        refine E_ldc2 (v := 27) tm_1495 dX12_cutAll_99 ?_
        refine E_lload 4 dX12_cutAll_102 rfl ?_
        refine E_lmul dX12_cutAll_104 ?_
        refine E_aload_n 0 dX12_cutAll_105 rfl rfl rfl ?_
        refine E_gR (j := 67) fG_X12_14 rfl (lo_66 hL2) (lr_66_1 hL2) (by decide) dX12_cutAll_106 ?_
        refine E_iload_n 2 dX12_cutAll_109 rfl rfl ?_
        obtain ⟨qq3, hB⟩ := hB
        refine E_aI (p := Int32.toNatClampNeg x2) (v := sI G2 67 (Int32.toNatClampNeg x2)) (la_67 hL2) qq3 rfl rfl dX12_cutAll_110 ?_
        refine E_callS (as := [.int (sI G2 67 (Int32.toNatClampNeg x2))]) (st := [.long (27 * y5)]) cm_X12_rank cS_X12_165 rfl rfl (by decide) (Nat.le_of_ble_eq_true rfl) (Nat.le_of_ble_eq_true rfl) dX12_cutAll_111 hB (fun r G4 hr => ?_)
        obtain ⟨r4, rfl, hE4, hB⟩ := hr
        have hL4 : Lay G4.2.2 := by rw [hE4]; exact hL2
        have hE4 : G4.2.2 = G.2.2 := hE4.trans hE2
        show Ev K mX12_cutAll 1 114 [(0, .ref 66), (1, .int x1), (2, .int x2), (4, .int x4), (5, .long y5)] [.int r4, .long (27 * y5)] G4 _
        refine E_i2l dX12_cutAll_114 rfl ?_
        refine E_ladd dX12_cutAll_115 ?_
        refine E_goto (tgt := 121) dX12_cutAll_116 (by decide) ?_
        refine E_sub (lv' := [(0, .ref 66), (1, .int x1), (2, .int x2), (4, .int x4)]) [0, 1, 2, 3] rfl ?_
        exact EvV.tr hB hE4

set_option maxRecDepth 20000 in
set_option maxHeartbeats 2000000 in
theorem kX12_cutAll_121 {K : KT} {G : St} {Q : St → Prop} {x1 : Int32} {x2 : Int32} {x4 : Int32} {ys0 : Int64} (hL : Lay G.2.2) 
    (hB : EvV K mX12_cutAll 1 70 [(0, .ref 66), (1, .int x1), (2, .int (x2 + 1)), (4, .int x4), (5, .long ys0)] [] G Q) :
    EvV K mX12_cutAll 1 121 [(0, .ref 66), (1, .int x1), (2, .int x2), (4, .int x4)] [.long ys0] G Q := by
  refine E_lstore (lv' := [(0, .ref 66), (1, .int x1), (2, .int x2), (4, .int x4), (5, .long ys0)]) dX12_cutAll_121 (by decide) rfl ?_
  refine E_iinc (v := x2 + 1) (lv' := [(0, .ref 66), (1, .int x1), (2, .int (x2 + 1)), (4, .int x4), (5, .long ys0)]) 2 dX12_cutAll_123 rfl rfl (by decide) rfl ?_
  refine E_goto (tgt := 70) dX12_cutAll_126 (by decide) ?_
  exact EvV.tr hB rfl

set_option maxRecDepth 20000 in
set_option maxHeartbeats 2000000 in
theorem kX12_cutAll_129 {K : KT} {G : St} {Q : St → Prop} {x1 : Int32} {x2 : Int32} {x4 : Int32} {y5 : Int64} (hL : Lay G.2.2) 
    (hB : (((x2 - x4) ≤ 8 → vp_in x1 1002 ∧ EvV K mX12_cutAll 1 265 [(0, .ref 66), (1, .int x1), (2, .int x2), (5, .long y5)] [] (uI G 68 (Int32.toNatClampNeg x1) 1) Q) ∧ (¬ (x2 - x4) ≤ 8 → vp_in x1 1002 ∧ EvV K mX12_cutAll 1 265 [(0, .ref 66), (1, .int x1), (2, .int x2), (5, .long y5)] [] (uI G 68 (Int32.toNatClampNeg x1) 4) Q))) :
    EvV K mX12_cutAll 1 129 [(0, .ref 66), (1, .int x1), (2, .int x2), (4, .int x4), (5, .long y5)] [] G Q := by
  refine E_aload_n 0 dX12_cutAll_129 rfl rfl rfl ?_
  refine E_gR (j := 68) fG_X12_24 rfl (lo_66 hL) (lr_66_4 hL) (by decide) dX12_cutAll_130 ?_
  refine E_iload_n 1 dX12_cutAll_133 rfl rfl ?_
  refine E_iload_n 2 dX12_cutAll_134 rfl rfl ?_
  refine E_iload 3 dX12_cutAll_135 rfl ?_
  refine E_isub dX12_cutAll_137 ?_
  refine E_bipush (v := 8) dX12_cutAll_138 (by decide) ?_
  refine E_icmp_le (tgt := 147) dX12_cutAll_140 (by decide) (fun c => ?_) (fun c => ?_)
  · have hB := hB.1 c
    refine E_iconst (v := 1) dX12_cutAll_147 (by decide) ?_
    obtain ⟨qq1, hB⟩ := hB
    refine E_sI (p := Int32.toNatClampNeg x1) (la_68 hL) qq1 rfl dX12_cutAll_148 ?_
    refine E_goto (tgt := 265) dX12_cutAll_149 (by decide) ?_
    refine E_sub (lv' := [(0, .ref 66), (1, .int x1), (2, .int x2), (5, .long y5)]) [0, 1, 2, 4] rfl ?_
    exact EvV.tr hB rfl
  · have hB := hB.2 c
    refine E_iconst (v := 4) dX12_cutAll_143 (by decide) ?_
    refine E_goto (tgt := 148) dX12_cutAll_144 (by decide) ?_
    obtain ⟨qq2, hB⟩ := hB
    refine E_sI (p := Int32.toNatClampNeg x1) (la_68 hL) qq2 rfl dX12_cutAll_148 ?_
    refine E_goto (tgt := 265) dX12_cutAll_149 (by decide) ?_
    refine E_sub (lv' := [(0, .ref 66), (1, .int x1), (2, .int x2), (5, .long y5)]) [0, 1, 2, 4] rfl ?_
    exact EvV.tr hB rfl

set_option maxRecDepth 20000 in
set_option maxHeartbeats 2000000 in
theorem kX12_cutAll_159 {K : KT} {G : St} {Q : St → Prop} {x1 : Int32} {x2 : Int32} {x4 : Int32} {y5 : Int64} (hL : Lay G.2.2) 
    (hB : (((sI G 66 3) ≤ x2 → EvV K mX12_cutAll 1 218 [(0, .ref 66), (1, .int x1), (2, .int x2), (4, .int x4), (5, .long y5)] [] G Q) ∧ (¬ (sI G 66 3) ≤ x2 → vp_in x2 1000 ∧ EvI K mX12_isDigit 0 0 [(0, .int (sI G 67 (Int32.toNatClampNeg x2)))] [] G (fun r2 G2 => ((r2 = 0 → EvV K mX12_cutAll 1 218 [(0, .ref 66), (1, .int x1), (2, .int x2), (4, .int x4), (5, .long y5)] [] G2 Q) ∧ (¬ r2 = 0 → ((4 ≤ (x2 - x4) → EvV K mX12_cutAll 1 210 [(0, .ref 66), (1, .int x1), (2, .int x2), (4, .int x4)] [.long y5] G2 Q) ∧ (¬ 4 ≤ (x2 - x4) → vp_in x2 1000 ∧ EvV K mX12_cutAll 1 210 [(0, .ref 66), (1, .int x1), (2, .int x2), (4, .int x4)] [.long (((10 * y5) + (Int32.toInt64 (sI G2 67 (Int32.toNatClampNeg x2)))) - 48)] G2 Q)))))))) :
    EvV K mX12_cutAll 1 159 [(0, .ref 66), (1, .int x1), (2, .int x2), (4, .int x4), (5, .long y5)] [] G Q := by
  refine E_iload_n 2 dX12_cutAll_159 rfl rfl ?_
  refine E_aload_n 0 dX12_cutAll_160 rfl rfl rfl ?_
  refine E_gI (v := sI G 66 3) fG_X12_156 rfl (lo_66 hL) rfl dX12_cutAll_161 ?_
  refine E_icmp_ge (tgt := 218) dX12_cutAll_164 (by decide) (fun c => ?_) (fun c => ?_)
  · have hB := hB.1 c
    exact EvV.tr hB rfl
  · have hB := hB.2 c
    refine E_aload_n 0 dX12_cutAll_167 rfl rfl rfl ?_
    refine E_gR (j := 67) fG_X12_14 rfl (lo_66 hL) (lr_66_1 hL) (by decide) dX12_cutAll_168 ?_
    refine E_iload_n 2 dX12_cutAll_171 rfl rfl ?_
    obtain ⟨qq1, hB⟩ := hB
    refine E_aI (p := Int32.toNatClampNeg x2) (v := sI G 67 (Int32.toNatClampNeg x2)) (la_67 hL) qq1 rfl rfl dX12_cutAll_172 ?_
    refine E_callS (as := [.int (sI G 67 (Int32.toNatClampNeg x2))]) (st := []) cm_X12_isDigit cS_X12_169 rfl rfl (by decide) (Nat.le_of_ble_eq_true rfl) (Nat.le_of_ble_eq_true rfl) dX12_cutAll_173 hB (fun r G2 hr => ?_)
    obtain ⟨r2, rfl, hE2, hB⟩ := hr
    have hL2 : Lay G2.2.2 := by rw [hE2]; exact hL
    have hE2 : G2.2.2 = G.2.2 := hE2
    show Ev K mX12_cutAll 1 176 [(0, .ref 66), (1, .int x1), (2, .int x2), (4, .int x4), (5, .long y5)] [.int r2] G2 _
    refine E_if_eq (tgt := 218) dX12_cutAll_176 (by decide) (fun c => ?_) (fun c => ?_)
    · have hB := hB.1 c
      exact EvV.tr hB hE2
    · have hB := hB.2 c
      refine E_iload_n 2 dX12_cutAll_179 rfl rfl ?_
      refine E_iload 3 dX12_cutAll_180 rfl ?_
      refine E_isub dX12_cutAll_182 ?_
      refine E_iconst (v := 4) dX12_cutAll_183 (by decide) ?_
      refine E_icmp_ge (tgt := 208) dX12_cutAll_184 (by decide) (fun c => ?_) (fun c => ?_)
      · have hB := hB.1 c
        refine E_lload 4 dX12_cutAll_208 rfl ?_
        refine E_sub (lv' := [(0, .ref 66), (1, .int x1), (2, .int x2), (4, .int x4)]) [0, 1, 2, 3] rfl ?_
        exact EvV.tr hB hE2
      · have hB := hB.2 c
        refine E_ldc2 (v := 10) tm_1502 dX12_cutAll_187 ?_
        refine E_lload 4 dX12_cutAll_190 rfl ?_
        refine E_lmul dX12_cutAll_192 ?_
        refine E_aload_n 0 dX12_cutAll_193 rfl rfl rfl ?_
        refine E_gR (j := 67) fG_X12_14 rfl (lo_66 hL2) (lr_66_1 hL2) (by decide) dX12_cutAll_194 ?_
        refine E_iload_n 2 dX12_cutAll_197 rfl rfl ?_
        obtain ⟨qq3, hB⟩ := hB
        refine E_aI (p := Int32.toNatClampNeg x2) (v := sI G2 67 (Int32.toNatClampNeg x2)) (la_67 hL2) qq3 rfl rfl dX12_cutAll_198 ?_
        refine E_i2l dX12_cutAll_199 rfl ?_
        refine E_ladd dX12_cutAll_200 ?_
        refine E_ldc2 (v := 48) tm_1503 dX12_cutAll_201 ?_
        refine E_lsub dX12_cutAll_204 ?_
        refine E_goto (tgt := 210) dX12_cutAll_205 (by decide) ?_
        refine E_sub (lv' := [(0, .ref 66), (1, .int x1), (2, .int x2), (4, .int x4)]) [0, 1, 2, 3] rfl ?_
        exact EvV.tr hB hE2

set_option maxRecDepth 20000 in
set_option maxHeartbeats 2000000 in
theorem kX12_cutAll_210 {K : KT} {G : St} {Q : St → Prop} {x1 : Int32} {x2 : Int32} {x4 : Int32} {ys0 : Int64} (hL : Lay G.2.2) 
    (hB : EvV K mX12_cutAll 1 159 [(0, .ref 66), (1, .int x1), (2, .int (x2 + 1)), (4, .int x4), (5, .long ys0)] [] G Q) :
    EvV K mX12_cutAll 1 210 [(0, .ref 66), (1, .int x1), (2, .int x2), (4, .int x4)] [.long ys0] G Q := by
  refine E_lstore (lv' := [(0, .ref 66), (1, .int x1), (2, .int x2), (4, .int x4), (5, .long ys0)]) dX12_cutAll_210 (by decide) rfl ?_
  refine E_iinc (v := x2 + 1) (lv' := [(0, .ref 66), (1, .int x1), (2, .int (x2 + 1)), (4, .int x4), (5, .long ys0)]) 2 dX12_cutAll_212 rfl rfl (by decide) rfl ?_
  refine E_goto (tgt := 159) dX12_cutAll_215 (by decide) ?_
  exact EvV.tr hB rfl

set_option maxRecDepth 20000 in
set_option maxHeartbeats 2000000 in
theorem kX12_cutAll_218 {K : KT} {G : St} {Q : St → Prop} {x1 : Int32} {x2 : Int32} {x4 : Int32} {y5 : Int64} (hL : Lay G.2.2) 
    (hB : (((x2 - x4) ≤ 4 → vp_in x1 1002 ∧ EvV K mX12_cutAll 1 265 [(0, .ref 66), (1, .int x1), (2, .int x2), (5, .long y5)] [] (uI G 68 (Int32.toNatClampNeg x1) 2) Q) ∧ (¬ (x2 - x4) ≤ 4 → vp_in x1 1002 ∧ EvV K mX12_cutAll 1 265 [(0, .ref 66), (1, .int x1), (2, .int x2), (5, .long y5)] [] (uI G 68 (Int32.toNatClampNeg x1) 4) Q))) :
    EvV K mX12_cutAll 1 218 [(0, .ref 66), (1, .int x1), (2, .int x2), (4, .int x4), (5, .long y5)] [] G Q := by
  refine E_aload_n 0 dX12_cutAll_218 rfl rfl rfl ?_
  refine E_gR (j := 68) fG_X12_24 rfl (lo_66 hL) (lr_66_4 hL) (by decide) dX12_cutAll_219 ?_
  refine E_iload_n 1 dX12_cutAll_222 rfl rfl ?_
  refine E_iload_n 2 dX12_cutAll_223 rfl rfl ?_
  refine E_iload 3 dX12_cutAll_224 rfl ?_
  refine E_isub dX12_cutAll_226 ?_
  refine E_iconst (v := 4) dX12_cutAll_227 (by decide) ?_
  refine E_icmp_le (tgt := 235) dX12_cutAll_228 (by decide) (fun c => ?_) (fun c => ?_)
  · have hB := hB.1 c
    refine E_iconst (v := 2) dX12_cutAll_235 (by decide) ?_
    obtain ⟨qq1, hB⟩ := hB
    refine E_sI (p := Int32.toNatClampNeg x1) (la_68 hL) qq1 rfl dX12_cutAll_236 ?_
    refine E_goto (tgt := 265) dX12_cutAll_237 (by decide) ?_
    refine E_sub (lv' := [(0, .ref 66), (1, .int x1), (2, .int x2), (5, .long y5)]) [0, 1, 2, 4] rfl ?_
    exact EvV.tr hB rfl
  · have hB := hB.2 c
    refine E_iconst (v := 4) dX12_cutAll_231 (by decide) ?_
    refine E_goto (tgt := 236) dX12_cutAll_232 (by decide) ?_
    obtain ⟨qq2, hB⟩ := hB
    refine E_sI (p := Int32.toNatClampNeg x1) (la_68 hL) qq2 rfl dX12_cutAll_236 ?_
    refine E_goto (tgt := 265) dX12_cutAll_237 (by decide) ?_
    refine E_sub (lv' := [(0, .ref 66), (1, .int x1), (2, .int x2), (5, .long y5)]) [0, 1, 2, 4] rfl ?_
    exact EvV.tr hB rfl

set_option maxRecDepth 20000 in
set_option maxHeartbeats 2000000 in
theorem kX12_cutAll_265 {K : KT} {G : St} {Q : St → Prop} {x1 : Int32} {x2 : Int32} {y5 : Int64} (hL : Lay G.2.2) 
    (hB : vp_in x1 1002 ∧ EvV K mX12_cutAll 1 17 [(0, .ref 66), (1, .int (x1 + 1)), (2, .int x2)] [] (uL G 70 (Int32.toNatClampNeg x1) y5) Q) :
    EvV K mX12_cutAll 1 265 [(0, .ref 66), (1, .int x1), (2, .int x2), (5, .long y5)] [] G Q := by
  refine E_aload_n 0 dX12_cutAll_265 rfl rfl rfl ?_
  refine E_gR (j := 70) fG_X12_30 rfl (lo_66 hL) (lr_66_6 hL) (by decide) dX12_cutAll_266 ?_
  refine E_iload_n 1 dX12_cutAll_269 rfl rfl ?_
  refine E_lload 3 dX12_cutAll_270 rfl ?_
  obtain ⟨qq1, hB⟩ := hB
  refine E_sL (p := Int32.toNatClampNeg x1) (la_70 hL) qq1 rfl dX12_cutAll_272 ?_
  refine E_iinc (v := x1 + 1) (lv' := [(0, .ref 66), (1, .int (x1 + 1)), (2, .int x2), (5, .long y5)]) 1 dX12_cutAll_273 rfl rfl (by decide) rfl ?_
  refine E_goto (tgt := 17) dX12_cutAll_276 (by decide) ?_
  refine E_sub (lv' := [(0, .ref 66), (1, .int (x1 + 1)), (2, .int x2)]) [0, 1, 2] rfl ?_
  exact EvV.tr hB rfl

set_option maxRecDepth 20000 in
set_option maxHeartbeats 2000000 in
theorem kX12_wrong_0 {K : KT} {G : St} {Q : St → Prop} {x1 : Int32} (hL : Lay G.2.2) 
    (hB : ((¬ (sI G 66 8) = 0 → Q G) ∧ ((sI G 66 8) = 0 → vp_in (sI G 66 7) 1002 ∧ Q (uI G 66 8 (x1 + (16 * (sI G 69 (Int32.toNatClampNeg (sI G 66 7))))))))) :
    EvV K mX12_wrong 0 0 [(0, .ref 66), (1, .int x1)] [] G Q := by
  refine E_aload_n 0 dX12_wrong_0 rfl rfl rfl ?_
  refine E_gI (v := sI G 66 8) fG_X12_182 rfl (lo_66 hL) rfl dX12_wrong_1 ?_
  refine E_if_ne (tgt := 25) dX12_wrong_4 (by decide) (fun c => ?_) (fun c => ?_)
  · have hB := hB.1 c
    exact E_vret rfl dX12_wrong_25 ⟨rfl, rfl, hB⟩
  · have hB := hB.2 c
    refine E_aload_n 0 dX12_wrong_7 rfl rfl rfl ?_
    refine E_iload_n 1 dX12_wrong_8 rfl rfl ?_
    refine E_bipush (v := 16) dX12_wrong_9 (by decide) ?_
    refine E_aload_n 0 dX12_wrong_11 rfl rfl rfl ?_
    refine E_gR (j := 69) fG_X12_27 rfl (lo_66 hL) (lr_66_5 hL) (by decide) dX12_wrong_12 ?_
    refine E_aload_n 0 dX12_wrong_15 rfl rfl rfl ?_
    refine E_gI (v := sI G 66 7) fG_X12_179 rfl (lo_66 hL) rfl dX12_wrong_16 ?_
    obtain ⟨qq1, hB⟩ := hB
    refine E_aI (p := Int32.toNatClampNeg (sI G 66 7)) (v := sI G 69 (Int32.toNatClampNeg (sI G 66 7))) (la_69 hL) qq1 rfl rfl dX12_wrong_19 ?_
    refine E_imul dX12_wrong_20 ?_
    refine E_iadd dX12_wrong_21 ?_
    refine E_pI fP_X12_182 rfl (lo_66 hL) dX12_wrong_22 ?_
    exact E_vret rfl dX12_wrong_25 ⟨rfl, rfl, hB⟩

set_option maxRecDepth 20000 in
set_option maxHeartbeats 2000000 in
theorem kX12_isSign_0 {K : KT} {G : St} {Q : Int32 → St → Prop} {x1 : Int32} (hL : Lay G.2.2) 
    (hB : ((¬ (sI G 66 8) = 0 → Q 0 G) ∧ ((sI G 66 8) = 0 → vp_in (sI G 66 7) 1002 ∧ ((¬ (sI G 68 (Int32.toNatClampNeg (sI G 66 7))) = 3 → Q 0 G) ∧ ((sI G 68 (Int32.toNatClampNeg (sI G 66 7))) = 3 → vp_in (sI G 66 7) 1002 ∧ ((¬ (sL G 70 (Int32.toNatClampNeg (sI G 66 7))) = (Int32.toInt64 x1) → Q 0 G) ∧ ((sL G 70 (Int32.toNatClampNeg (sI G 66 7))) = (Int32.toInt64 x1) → Q 1 G))))))) :
    EvI K mX12_isSign 0 0 [(0, .ref 66), (1, .int x1)] [] G Q := by
  refine E_aload_n 0 dX12_isSign_0 rfl rfl rfl ?_
  refine E_gI (v := sI G 66 8) fG_X12_182 rfl (lo_66 hL) rfl dX12_isSign_1 ?_
  refine E_if_ne (tgt := 39) dX12_isSign_4 (by decide) (fun c => ?_) (fun c => ?_)
  · have hB := hB.1 c
    refine E_iconst (v := 0) dX12_isSign_39 (by decide) ?_
    exact E_zret rfl (Or.inl rfl) dX12_isSign_40 ⟨_, rfl, rfl, hB⟩
  · have hB := hB.2 c
    refine E_aload_n 0 dX12_isSign_7 rfl rfl rfl ?_
    refine E_gR (j := 68) fG_X12_24 rfl (lo_66 hL) (lr_66_4 hL) (by decide) dX12_isSign_8 ?_
    refine E_aload_n 0 dX12_isSign_11 rfl rfl rfl ?_
    refine E_gI (v := sI G 66 7) fG_X12_179 rfl (lo_66 hL) rfl dX12_isSign_12 ?_
    obtain ⟨qq1, hB⟩ := hB
    refine E_aI (p := Int32.toNatClampNeg (sI G 66 7)) (v := sI G 68 (Int32.toNatClampNeg (sI G 66 7))) (la_68 hL) qq1 rfl rfl dX12_isSign_15 ?_
    refine E_iconst (v := 3) dX12_isSign_16 (by decide) ?_
    refine E_icmp_ne (tgt := 39) dX12_isSign_17 (by decide) (fun c => ?_) (fun c => ?_)
    · have hB := hB.1 c
      refine E_iconst (v := 0) dX12_isSign_39 (by decide) ?_
      exact E_zret rfl (Or.inl rfl) dX12_isSign_40 ⟨_, rfl, rfl, hB⟩
    · have hB := hB.2 c
      refine E_aload_n 0 dX12_isSign_20 rfl rfl rfl ?_
      refine E_gR (j := 70) fG_X12_30 rfl (lo_66 hL) (lr_66_6 hL) (by decide) dX12_isSign_21 ?_
      refine E_aload_n 0 dX12_isSign_24 rfl rfl rfl ?_
      refine E_gI (v := sI G 66 7) fG_X12_179 rfl (lo_66 hL) rfl dX12_isSign_25 ?_
      obtain ⟨qq2, hB⟩ := hB
      refine E_aL (p := Int32.toNatClampNeg (sI G 66 7)) (v := sL G 70 (Int32.toNatClampNeg (sI G 66 7))) (la_70 hL) qq2 rfl rfl dX12_isSign_28 ?_
      refine E_iload_n 1 dX12_isSign_29 rfl rfl ?_
      refine E_i2l dX12_isSign_30 rfl ?_
      refine E_lcmp dX12_isSign_31 ?_
      refine E_if_ne (tgt := 39) dX12_isSign_32 (by decide) (fun c => ?_) (fun c => ?_)
      · have hB := hB.1 ((fun q => c ((lgc_eq (sL G 70 (Int32.toNatClampNeg (sI G 66 7))) (Int32.toInt64 x1)).mpr q)))
        refine E_iconst (v := 0) dX12_isSign_39 (by decide) ?_
        exact E_zret rfl (Or.inl rfl) dX12_isSign_40 ⟨_, rfl, rfl, hB⟩
      · have hB := hB.2 ((lgc_eq (sL G 70 (Int32.toNatClampNeg (sI G 66 7))) (Int32.toInt64 x1)).mp c)
        refine E_iconst (v := 1) dX12_isSign_35 (by decide) ?_
        refine E_goto (tgt := 40) dX12_isSign_36 (by decide) ?_
        exact E_zret rfl (Or.inr rfl) dX12_isSign_40 ⟨_, rfl, rfl, hB⟩

set_option maxRecDepth 20000 in
set_option maxHeartbeats 2000000 in
theorem kX12_isWord_0 {K : KT} {G : St} {Q : Int32 → St → Prop} {x1 : Int32} (hL : Lay G.2.2) 
    (hB : ((¬ (sI G 66 8) = 0 → Q 0 G) ∧ ((sI G 66 8) = 0 → vp_in (sI G 66 7) 1002 ∧ ((¬ (sI G 68 (Int32.toNatClampNeg (sI G 66 7))) = 1 → Q 0 G) ∧ ((sI G 68 (Int32.toNatClampNeg (sI G 66 7))) = 1 → vp_in (sI G 66 7) 1002 ∧ vp_in x1 8 ∧ ((¬ (sL G 70 (Int32.toNatClampNeg (sI G 66 7))) = (sL G 71 (Int32.toNatClampNeg x1)) → Q 0 G) ∧ ((sL G 70 (Int32.toNatClampNeg (sI G 66 7))) = (sL G 71 (Int32.toNatClampNeg x1)) → Q 1 G))))))) :
    EvI K mX12_isWord 0 0 [(0, .ref 66), (1, .int x1)] [] G Q := by
  refine E_aload_n 0 dX12_isWord_0 rfl rfl rfl ?_
  refine E_gI (v := sI G 66 8) fG_X12_182 rfl (lo_66 hL) rfl dX12_isWord_1 ?_
  refine E_if_ne (tgt := 43) dX12_isWord_4 (by decide) (fun c => ?_) (fun c => ?_)
  · have hB := hB.1 c
    refine E_iconst (v := 0) dX12_isWord_43 (by decide) ?_
    exact E_zret rfl (Or.inl rfl) dX12_isWord_44 ⟨_, rfl, rfl, hB⟩
  · have hB := hB.2 c
    refine E_aload_n 0 dX12_isWord_7 rfl rfl rfl ?_
    refine E_gR (j := 68) fG_X12_24 rfl (lo_66 hL) (lr_66_4 hL) (by decide) dX12_isWord_8 ?_
    refine E_aload_n 0 dX12_isWord_11 rfl rfl rfl ?_
    refine E_gI (v := sI G 66 7) fG_X12_179 rfl (lo_66 hL) rfl dX12_isWord_12 ?_
    obtain ⟨qq1, hB⟩ := hB
    refine E_aI (p := Int32.toNatClampNeg (sI G 66 7)) (v := sI G 68 (Int32.toNatClampNeg (sI G 66 7))) (la_68 hL) qq1 rfl rfl dX12_isWord_15 ?_
    refine E_iconst (v := 1) dX12_isWord_16 (by decide) ?_
    refine E_icmp_ne (tgt := 43) dX12_isWord_17 (by decide) (fun c => ?_) (fun c => ?_)
    · have hB := hB.1 c
      refine E_iconst (v := 0) dX12_isWord_43 (by decide) ?_
      exact E_zret rfl (Or.inl rfl) dX12_isWord_44 ⟨_, rfl, rfl, hB⟩
    · have hB := hB.2 c
      refine E_aload_n 0 dX12_isWord_20 rfl rfl rfl ?_
      refine E_gR (j := 70) fG_X12_30 rfl (lo_66 hL) (lr_66_6 hL) (by decide) dX12_isWord_21 ?_
      refine E_aload_n 0 dX12_isWord_24 rfl rfl rfl ?_
      refine E_gI (v := sI G 66 7) fG_X12_179 rfl (lo_66 hL) rfl dX12_isWord_25 ?_
      obtain ⟨qq2, hB⟩ := hB
      refine E_aL (p := Int32.toNatClampNeg (sI G 66 7)) (v := sL G 70 (Int32.toNatClampNeg (sI G 66 7))) (la_70 hL) qq2 rfl rfl dX12_isWord_28 ?_
      refine E_aload_n 0 dX12_isWord_29 rfl rfl rfl ?_
      refine E_gR (j := 71) fG_X12_50 rfl (lo_66 hL) (lr_66_9 hL) (by decide) dX12_isWord_30 ?_
      refine E_iload_n 1 dX12_isWord_33 rfl rfl ?_
      obtain ⟨qq3, hB⟩ := hB
      refine E_aL (p := Int32.toNatClampNeg x1) (v := sL G 71 (Int32.toNatClampNeg x1)) (la_71 hL) qq3 rfl rfl dX12_isWord_34 ?_
      refine E_lcmp dX12_isWord_35 ?_
      refine E_if_ne (tgt := 43) dX12_isWord_36 (by decide) (fun c => ?_) (fun c => ?_)
      · have hB := hB.1 ((fun q => c ((lgc_eq (sL G 70 (Int32.toNatClampNeg (sI G 66 7))) (sL G 71 (Int32.toNatClampNeg x1))).mpr q)))
        refine E_iconst (v := 0) dX12_isWord_43 (by decide) ?_
        exact E_zret rfl (Or.inl rfl) dX12_isWord_44 ⟨_, rfl, rfl, hB⟩
      · have hB := hB.2 ((lgc_eq (sL G 70 (Int32.toNatClampNeg (sI G 66 7))) (sL G 71 (Int32.toNatClampNeg x1))).mp c)
        refine E_iconst (v := 1) dX12_isWord_39 (by decide) ?_
        refine E_goto (tgt := 44) dX12_isWord_40 (by decide) ?_
        exact E_zret rfl (Or.inr rfl) dX12_isWord_44 ⟨_, rfl, rfl, hB⟩

set_option maxRecDepth 20000 in
set_option maxHeartbeats 2000000 in
theorem kX12_takeSign_0 {K : KT} {G : St} {Q : St → Prop} {x1 : Int32} (hL : Lay G.2.2) 
    (hB : EvI K mX12_isSign 0 0 [(0, .ref 66), (1, .int x1)] [] G (fun r1 G1 => ((r1 = 0 → EvV K mX12_wrong 0 0 [(0, .ref 66), (1, .int 1)] [] G1 (fun G2 => Q G2)) ∧ (¬ r1 = 0 → Q (uI G1 66 7 ((sI G1 66 7) + 1)))))) :
    EvV K mX12_takeSign 1 0 [(0, .ref 66), (1, .int x1)] [] G Q := by
  refine E_aload_n 0 dX12_takeSign_0 rfl rfl rfl ?_
  refine E_iload_n 1 dX12_takeSign_1 rfl rfl ?_
  refine E_cV (ci := 11) (as := [.int x1]) (st := []) cm_X12_isSign cV_X12_185 ⟨_, _, rfl⟩ (by decide) (lo_66 hL) rfl rfl (by decide) (Nat.le_of_ble_eq_true rfl) (Nat.le_of_ble_eq_true rfl) dX12_takeSign_2 hB (fun r G1 hr => ?_)
  obtain ⟨r1, rfl, hE1, hB⟩ := hr
  have hL1 : Lay G1.2.2 := by rw [hE1]; exact hL
  have hE1 : G1.2.2 = G.2.2 := hE1
  show Ev K mX12_takeSign 1 5 [(0, .ref 66), (1, .int x1)] [.int r1] G1 _
  refine E_if_eq (tgt := 21) dX12_takeSign_5 (by decide) (fun c => ?_) (fun c => ?_)
  · have hB := hB.1 c
    refine E_aload_n 0 dX12_takeSign_21 rfl rfl rfl ?_
    refine E_iconst (v := 1) dX12_takeSign_22 (by decide) ?_
    refine E_cV (ci := 11) (as := [.int 1]) (st := []) cm_X12_wrong cV_X12_188 ⟨_, _, rfl⟩ (by decide) (lo_66 hL1) rfl rfl (by decide) (Nat.le_of_ble_eq_true rfl) (Nat.le_of_ble_eq_true rfl) dX12_takeSign_23 hB (fun r G2 hr => ?_)
    obtain ⟨rfl, hE2, hB⟩ := hr
    have hL2 : Lay G2.2.2 := by rw [hE2]; exact hL1
    have hE2 : G2.2.2 = G.2.2 := hE2.trans hE1
    show Ev K mX12_takeSign 1 26 [(0, .ref 66), (1, .int x1)] [] G2 _
    exact E_vret rfl dX12_takeSign_26 ⟨rfl, hE2, hB⟩
  · have hB := hB.2 c
    refine E_aload_n 0 dX12_takeSign_8 rfl rfl rfl ?_
    refine E_dup dX12_takeSign_9 rfl ?_
    refine E_gI (v := sI G1 66 7) fG_X12_179 rfl (lo_66 hL1) rfl dX12_takeSign_10 ?_
    refine E_iconst (v := 1) dX12_takeSign_13 (by decide) ?_
    refine E_iadd dX12_takeSign_14 ?_
    refine E_pI fP_X12_179 rfl (lo_66 hL1) dX12_takeSign_15 ?_
    refine E_goto (tgt := 26) dX12_takeSign_18 (by decide) ?_
    exact E_vret rfl dX12_takeSign_26 ⟨rfl, hE1, hB⟩

set_option maxRecDepth 20000 in
set_option maxHeartbeats 2000000 in
theorem kX12_hasSign_0 {K : KT} {G : St} {Q : Int32 → St → Prop} {x1 : Int32} (hL : Lay G.2.2) 
    (hB : EvI K mX12_isSign 0 0 [(0, .ref 66), (1, .int x1)] [] G (fun r1 G1 => ((r1 = 0 → (r1 = 0 ∨ r1 = 1) ∧ Q r1 (uI G1 66 7 ((sI G1 66 7) + 0))) ∧ (¬ r1 = 0 → (r1 = 0 ∨ r1 = 1) ∧ Q r1 (uI G1 66 7 ((sI G1 66 7) + 1)))))) :
    EvI K mX12_hasSign 1 0 [(0, .ref 66), (1, .int x1)] [] G Q := by
  refine E_aload_n 0 dX12_hasSign_0 rfl rfl rfl ?_
  refine E_iload_n 1 dX12_hasSign_1 rfl rfl ?_
  refine E_cV (ci := 11) (as := [.int x1]) (st := []) cm_X12_isSign cV_X12_185 ⟨_, _, rfl⟩ (by decide) (lo_66 hL) rfl rfl (by decide) (Nat.le_of_ble_eq_true rfl) (Nat.le_of_ble_eq_true rfl) dX12_hasSign_2 hB (fun r G1 hr => ?_)
  obtain ⟨r1, rfl, hE1, hB⟩ := hr
  have hL1 : Lay G1.2.2 := by rw [hE1]; exact hL
  have hE1 : G1.2.2 = G.2.2 := hE1
  show Ev K mX12_hasSign 1 5 [(0, .ref 66), (1, .int x1)] [.int r1] G1 _
  refine E_istore_n (lv' := [(0, .ref 66), (1, .int x1), (2, .int r1)]) dX12_hasSign_5 rfl (by decide) rfl ?_
  refine E_aload_n 0 dX12_hasSign_6 rfl rfl rfl ?_
  refine E_dup dX12_hasSign_7 rfl ?_
  refine E_gI (v := sI G1 66 7) fG_X12_179 rfl (lo_66 hL1) rfl dX12_hasSign_8 ?_
  refine E_iload_n 2 dX12_hasSign_11 rfl rfl ?_
  refine E_if_eq (tgt := 19) dX12_hasSign_12 (by decide) (fun c => ?_) (fun c => ?_)
  · have hB := hB.1 c
    refine E_iconst (v := 0) dX12_hasSign_19 (by decide) ?_
    refine E_iadd dX12_hasSign_20 ?_
    refine E_pI fP_X12_179 rfl (lo_66 hL1) dX12_hasSign_21 ?_
    refine E_iload_n 2 dX12_hasSign_24 rfl rfl ?_
    obtain ⟨qq2, hB⟩ := hB
    exact E_zret rfl qq2 dX12_hasSign_25 ⟨_, rfl, hE1, hB⟩
  · have hB := hB.2 c
    refine E_iconst (v := 1) dX12_hasSign_15 (by decide) ?_
    refine E_goto (tgt := 20) dX12_hasSign_16 (by decide) ?_
    refine E_iadd dX12_hasSign_20 ?_
    refine E_pI fP_X12_179 rfl (lo_66 hL1) dX12_hasSign_21 ?_
    refine E_iload_n 2 dX12_hasSign_24 rfl rfl ?_
    obtain ⟨qq3, hB⟩ := hB
    exact E_zret rfl qq3 dX12_hasSign_25 ⟨_, rfl, hE1, hB⟩

set_option maxRecDepth 20000 in
set_option maxHeartbeats 2000000 in
theorem kX12_hasWord_0 {K : KT} {G : St} {Q : Int32 → St → Prop} {x1 : Int32} (hL : Lay G.2.2) 
    (hB : EvI K mX12_isWord 0 0 [(0, .ref 66), (1, .int x1)] [] G (fun r1 G1 => ((r1 = 0 → (r1 = 0 ∨ r1 = 1) ∧ Q r1 (uI G1 66 7 ((sI G1 66 7) + 0))) ∧ (¬ r1 = 0 → (r1 = 0 ∨ r1 = 1) ∧ Q r1 (uI G1 66 7 ((sI G1 66 7) + 1)))))) :
    EvI K mX12_hasWord 1 0 [(0, .ref 66), (1, .int x1)] [] G Q := by
  refine E_aload_n 0 dX12_hasWord_0 rfl rfl rfl ?_
  refine E_iload_n 1 dX12_hasWord_1 rfl rfl ?_
  refine E_cV (ci := 11) (as := [.int x1]) (st := []) cm_X12_isWord cV_X12_192 ⟨_, _, rfl⟩ (by decide) (lo_66 hL) rfl rfl (by decide) (Nat.le_of_ble_eq_true rfl) (Nat.le_of_ble_eq_true rfl) dX12_hasWord_2 hB (fun r G1 hr => ?_)
  obtain ⟨r1, rfl, hE1, hB⟩ := hr
  have hL1 : Lay G1.2.2 := by rw [hE1]; exact hL
  have hE1 : G1.2.2 = G.2.2 := hE1
  show Ev K mX12_hasWord 1 5 [(0, .ref 66), (1, .int x1)] [.int r1] G1 _
  refine E_istore_n (lv' := [(0, .ref 66), (1, .int x1), (2, .int r1)]) dX12_hasWord_5 rfl (by decide) rfl ?_
  refine E_aload_n 0 dX12_hasWord_6 rfl rfl rfl ?_
  refine E_dup dX12_hasWord_7 rfl ?_
  refine E_gI (v := sI G1 66 7) fG_X12_179 rfl (lo_66 hL1) rfl dX12_hasWord_8 ?_
  refine E_iload_n 2 dX12_hasWord_11 rfl rfl ?_
  refine E_if_eq (tgt := 19) dX12_hasWord_12 (by decide) (fun c => ?_) (fun c => ?_)
  · have hB := hB.1 c
    refine E_iconst (v := 0) dX12_hasWord_19 (by decide) ?_
    refine E_iadd dX12_hasWord_20 ?_
    refine E_pI fP_X12_179 rfl (lo_66 hL1) dX12_hasWord_21 ?_
    refine E_iload_n 2 dX12_hasWord_24 rfl rfl ?_
    obtain ⟨qq2, hB⟩ := hB
    exact E_zret rfl qq2 dX12_hasWord_25 ⟨_, rfl, hE1, hB⟩
  · have hB := hB.2 c
    refine E_iconst (v := 1) dX12_hasWord_15 (by decide) ?_
    refine E_goto (tgt := 20) dX12_hasWord_16 (by decide) ?_
    refine E_iadd dX12_hasWord_20 ?_
    refine E_pI fP_X12_179 rfl (lo_66 hL1) dX12_hasWord_21 ?_
    refine E_iload_n 2 dX12_hasWord_24 rfl rfl ?_
    obtain ⟨qq3, hB⟩ := hB
    exact E_zret rfl qq3 dX12_hasWord_25 ⟨_, rfl, hE1, hB⟩

set_option maxRecDepth 20000 in
set_option maxHeartbeats 2000000 in
theorem kX12_takeWord_0 {K : KT} {G : St} {Q : St → Prop} {x1 : Int32} (hL : Lay G.2.2) 
    (hB : EvI K mX12_hasWord 1 0 [(0, .ref 66), (1, .int x1)] [] G (fun r1 G1 => ((¬ r1 = 0 → Q G1) ∧ (r1 = 0 → EvV K mX12_wrong 0 0 [(0, .ref 66), (1, .int 1)] [] G1 (fun G2 => Q G2))))) :
    EvV K mX12_takeWord 2 0 [(0, .ref 66), (1, .int x1)] [] G Q := by
  refine E_aload_n 0 dX12_takeWord_0 rfl rfl rfl ?_
  refine E_iload_n 1 dX12_takeWord_1 rfl rfl ?_
  refine E_cV (ci := 11) (as := [.int x1]) (st := []) cm_X12_hasWord cV_X12_195 ⟨_, _, rfl⟩ (by decide) (lo_66 hL) rfl rfl (by decide) (Nat.le_of_ble_eq_true rfl) (Nat.le_of_ble_eq_true rfl) dX12_takeWord_2 hB (fun r G1 hr => ?_)
  obtain ⟨r1, rfl, hE1, hB⟩ := hr
  have hL1 : Lay G1.2.2 := by rw [hE1]; exact hL
  have hE1 : G1.2.2 = G.2.2 := hE1
  show Ev K mX12_takeWord 2 5 [(0, .ref 66), (1, .int x1)] [.int r1] G1 _
  refine E_if_ne (tgt := 13) dX12_takeWord_5 (by decide) (fun c => ?_) (fun c => ?_)
  · have hB := hB.1 c
    exact E_vret rfl dX12_takeWord_13 ⟨rfl, hE1, hB⟩
  · have hB := hB.2 c
    refine E_aload_n 0 dX12_takeWord_8 rfl rfl rfl ?_
    refine E_iconst (v := 1) dX12_takeWord_9 (by decide) ?_
    refine E_cV (ci := 11) (as := [.int 1]) (st := []) cm_X12_wrong cV_X12_188 ⟨_, _, rfl⟩ (by decide) (lo_66 hL1) rfl rfl (by decide) (Nat.le_of_ble_eq_true rfl) (Nat.le_of_ble_eq_true rfl) dX12_takeWord_10 hB (fun r G2 hr => ?_)
    obtain ⟨rfl, hE2, hB⟩ := hr
    have hL2 : Lay G2.2.2 := by rw [hE2]; exact hL1
    have hE2 : G2.2.2 = G.2.2 := hE2.trans hE1
    show Ev K mX12_takeWord 2 13 [(0, .ref 66), (1, .int x1)] [] G2 _
    exact E_vret rfl dX12_takeWord_13 ⟨rfl, hE2, hB⟩

set_option maxRecDepth 20000 in
set_option maxHeartbeats 2000000 in
theorem kX12_within_0 {K : KT} {G : St} {Q : Int32 → St → Prop} {x0 : Int32} {x1 : Int32} {x2 : Int32} (hL : Lay G.2.2) 
    (hB : ((x0 < x1 → Q 0 G) ∧ (¬ x0 < x1 → ((x2 < x0 → Q 0 G) ∧ (¬ x2 < x0 → Q 1 G))))) :
    EvI K mX12_within 0 0 [(0, .int x0), (1, .int x1), (2, .int x2)] [] G Q := by
  refine E_iload_n 0 dX12_within_0 rfl rfl ?_
  refine E_iload_n 1 dX12_within_1 rfl rfl ?_
  refine E_icmp_lt (tgt := 14) dX12_within_2 (by decide) (fun c => ?_) (fun c => ?_)
  · have hB := hB.1 c
    refine E_iconst (v := 0) dX12_within_14 (by decide) ?_
    exact E_zret rfl (Or.inl rfl) dX12_within_15 ⟨_, rfl, rfl, hB⟩
  · have hB := hB.2 c
    refine E_iload_n 0 dX12_within_5 rfl rfl ?_
    refine E_iload_n 2 dX12_within_6 rfl rfl ?_
    refine E_icmp_gt (tgt := 14) dX12_within_7 (by decide) (fun c => ?_) (fun c => ?_)
    · have hB := hB.1 c
      refine E_iconst (v := 0) dX12_within_14 (by decide) ?_
      exact E_zret rfl (Or.inl rfl) dX12_within_15 ⟨_, rfl, rfl, hB⟩
    · have hB := hB.2 c
      refine E_iconst (v := 1) dX12_within_10 (by decide) ?_
      refine E_goto (tgt := 15) dX12_within_11 (by decide) ?_
      exact E_zret rfl (Or.inr rfl) dX12_within_15 ⟨_, rfl, rfl, hB⟩

set_option maxRecDepth 20000 in
set_option maxHeartbeats 2000000 in
theorem kX12_isName_0 {K : KT} {G : St} {Q : Int32 → St → Prop}  (hL : Lay G.2.2) 
    (hB : ((¬ (sI G 66 8) = 0 → EvI K mX12_isName 0 28 [(0, .ref 66), (1, .int 0), (2, .int 0)] [] G Q) ∧ ((sI G 66 8) = 0 → vp_in (sI G 66 7) 1002 ∧ ((¬ (sI G 68 (Int32.toNatClampNeg (sI G 66 7))) = 1 → EvI K mX12_isName 0 28 [(0, .ref 66), (1, .int 0), (2, .int 0)] [] G Q) ∧ ((sI G 68 (Int32.toNatClampNeg (sI G 66 7))) = 1 → EvI K mX12_isName 0 28 [(0, .ref 66), (1, .int 1), (2, .int 0)] [] G Q))))) :
    EvI K mX12_isName 0 0 [(0, .ref 66)] [] G Q := by
  refine E_aload_n 0 dX12_isName_0 rfl rfl rfl ?_
  refine E_gI (v := sI G 66 8) fG_X12_182 rfl (lo_66 hL) rfl dX12_isName_1 ?_
  refine E_if_ne (tgt := 24) dX12_isName_4 (by decide) (fun c => ?_) (fun c => ?_)
  · have hB := hB.1 c
    refine E_iconst (v := 0) dX12_isName_24 (by decide) ?_
    refine E_istore_n (lv' := [(0, .ref 66), (1, .int 0)]) dX12_isName_25 rfl (by decide) rfl ?_
    refine E_iconst (v := 0) dX12_isName_26 (by decide) ?_
    refine E_istore_n (lv' := [(0, .ref 66), (1, .int 0), (2, .int 0)]) dX12_isName_27 rfl (by decide) rfl ?_
    exact EvI.tr hB rfl
  · have hB := hB.2 c
    refine E_aload_n 0 dX12_isName_7 rfl rfl rfl ?_
    refine E_gR (j := 68) fG_X12_24 rfl (lo_66 hL) (lr_66_4 hL) (by decide) dX12_isName_8 ?_
    refine E_aload_n 0 dX12_isName_11 rfl rfl rfl ?_
    refine E_gI (v := sI G 66 7) fG_X12_179 rfl (lo_66 hL) rfl dX12_isName_12 ?_
    obtain ⟨qq1, hB⟩ := hB
    refine E_aI (p := Int32.toNatClampNeg (sI G 66 7)) (v := sI G 68 (Int32.toNatClampNeg (sI G 66 7))) (la_68 hL) qq1 rfl rfl dX12_isName_15 ?_
    refine E_iconst (v := 1) dX12_isName_16 (by decide) ?_
    refine E_icmp_ne (tgt := 24) dX12_isName_17 (by decide) (fun c => ?_) (fun c => ?_)
    · have hB := hB.1 c
      refine E_iconst (v := 0) dX12_isName_24 (by decide) ?_
      refine E_istore_n (lv' := [(0, .ref 66), (1, .int 0)]) dX12_isName_25 rfl (by decide) rfl ?_
      refine E_iconst (v := 0) dX12_isName_26 (by decide) ?_
      refine E_istore_n (lv' := [(0, .ref 66), (1, .int 0), (2, .int 0)]) dX12_isName_27 rfl (by decide) rfl ?_
      exact EvI.tr hB rfl
    · have hB := hB.2 c
      refine E_iconst (v := 1) dX12_isName_20 (by decide) ?_
      refine E_goto (tgt := 25) dX12_isName_21 (by decide) ?_
      refine E_istore_n (lv' := [(0, .ref 66), (1, .int 1)]) dX12_isName_25 rfl (by decide) rfl ?_
      refine E_iconst (v := 0) dX12_isName_26 (by decide) ?_
      refine E_istore_n (lv' := [(0, .ref 66), (1, .int 1), (2, .int 0)]) dX12_isName_27 rfl (by decide) rfl ?_
      exact EvI.tr hB rfl

set_option maxRecDepth 20000 in
set_option maxHeartbeats 2000000 in
theorem kX12_isName_28 {K : KT} {G : St} {Q : Int32 → St → Prop} {x1 : Int32} {x2 : Int32} (hL : Lay G.2.2) 
    (hB : ((8 ≤ x2 → (x1 = 0 ∨ x1 = 1) ∧ Q x1 G) ∧ (¬ 8 ≤ x2 → ((x1 = 0 → EvI K mX12_isName 0 61 [(0, .ref 66), (2, .int x2)] [] G Q) ∧ (¬ x1 = 0 → vp_in (sI G 66 7) 1002 ∧ vp_in x2 8 ∧ (((sL G 70 (Int32.toNatClampNeg (sI G 66 7))) = (sL G 71 (Int32.toNatClampNeg x2)) → EvI K mX12_isName 0 61 [(0, .ref 66), (2, .int x2)] [] G Q) ∧ (¬ (sL G 70 (Int32.toNatClampNeg (sI G 66 7))) = (sL G 71 (Int32.toNatClampNeg x2)) → EvI K mX12_isName 0 62 [(0, .ref 66), (2, .int x2)] [.int 1] G Q))))))) :
    EvI K mX12_isName 0 28 [(0, .ref 66), (1, .int x1), (2, .int x2)] [] G Q := by
  refine E_iload_n 2 dX12_isName_28 rfl rfl ?_
  refine E_bipush (v := 8) dX12_isName_29 (by decide) ?_
  refine E_icmp_ge (tgt := 69) dX12_isName_31 (by decide) (fun c => ?_) (fun c => ?_)
  · have hB := hB.1 c
    refine E_iload_n 1 dX12_isName_69 rfl rfl ?_
    obtain ⟨qq1, hB⟩ := hB
    exact E_zret rfl qq1 dX12_isName_70 ⟨_, rfl, rfl, hB⟩
  · have hB := hB.2 c
    refine E_iload_n 1 dX12_isName_34 rfl rfl ?_
    refine E_if_eq (tgt := 61) dX12_isName_35 (by decide) (fun c => ?_) (fun c => ?_)
    · have hB := hB.1 c
      refine E_sub (lv' := [(0, .ref 66), (2, .int x2)]) [0, 2] rfl ?_
      exact EvI.tr hB rfl
    · have hB := hB.2 c
      refine E_aload_n 0 dX12_isName_38 rfl rfl rfl ?_
      refine E_gR (j := 70) fG_X12_30 rfl (lo_66 hL) (lr_66_6 hL) (by decide) dX12_isName_39 ?_
      refine E_aload_n 0 dX12_isName_42 rfl rfl rfl ?_
      refine E_gI (v := sI G 66 7) fG_X12_179 rfl (lo_66 hL) rfl dX12_isName_43 ?_
      obtain ⟨qq2, hB⟩ := hB
      refine E_aL (p := Int32.toNatClampNeg (sI G 66 7)) (v := sL G 70 (Int32.toNatClampNeg (sI G 66 7))) (la_70 hL) qq2 rfl rfl dX12_isName_46 ?_
      refine E_aload_n 0 dX12_isName_47 rfl rfl rfl ?_
      refine E_gR (j := 71) fG_X12_50 rfl (lo_66 hL) (lr_66_9 hL) (by decide) dX12_isName_48 ?_
      refine E_iload_n 2 dX12_isName_51 rfl rfl ?_
      obtain ⟨qq3, hB⟩ := hB
      refine E_aL (p := Int32.toNatClampNeg x2) (v := sL G 71 (Int32.toNatClampNeg x2)) (la_71 hL) qq3 rfl rfl dX12_isName_52 ?_
      refine E_lcmp dX12_isName_53 ?_
      refine E_if_eq (tgt := 61) dX12_isName_54 (by decide) (fun c => ?_) (fun c => ?_)
      · have hB := hB.1 ((lgc_eq (sL G 70 (Int32.toNatClampNeg (sI G 66 7))) (sL G 71 (Int32.toNatClampNeg x2))).mp c)
        refine E_sub (lv' := [(0, .ref 66), (2, .int x2)]) [0, 2] rfl ?_
        exact EvI.tr hB rfl
      · have hB := hB.2 (fun q => c ((lgc_eq (sL G 70 (Int32.toNatClampNeg (sI G 66 7))) (sL G 71 (Int32.toNatClampNeg x2))).mpr q))
        refine E_iconst (v := 1) dX12_isName_57 (by decide) ?_
        refine E_goto (tgt := 62) dX12_isName_58 (by decide) ?_
        refine E_sub (lv' := [(0, .ref 66), (2, .int x2)]) [0, 2] rfl ?_
        exact EvI.tr hB rfl

set_option maxRecDepth 20000 in
set_option maxHeartbeats 2000000 in
theorem kX12_isName_61 {K : KT} {G : St} {Q : Int32 → St → Prop} {x2 : Int32} (hL : Lay G.2.2) 
    (hB : EvI K mX12_isName 0 62 [(0, .ref 66), (2, .int x2)] [.int 0] G Q) :
    EvI K mX12_isName 0 61 [(0, .ref 66), (2, .int x2)] [] G Q := by
  refine E_iconst (v := 0) dX12_isName_61 (by decide) ?_
  exact EvI.tr hB rfl

set_option maxRecDepth 20000 in
set_option maxHeartbeats 2000000 in
theorem kX12_isName_62 {K : KT} {G : St} {Q : Int32 → St → Prop} {x2 : Int32} {xs0 : Int32} (hL : Lay G.2.2) 
    (hB : EvI K mX12_isName 0 28 [(0, .ref 66), (1, .int xs0), (2, .int (x2 + 1))] [] G Q) :
    EvI K mX12_isName 0 62 [(0, .ref 66), (2, .int x2)] [.int xs0] G Q := by
  refine E_istore_n (lv' := [(0, .ref 66), (1, .int xs0), (2, .int x2)]) dX12_isName_62 rfl (by decide) rfl ?_
  refine E_iinc (v := x2 + 1) (lv' := [(0, .ref 66), (1, .int xs0), (2, .int (x2 + 1))]) 2 dX12_isName_63 rfl rfl (by decide) rfl ?_
  refine E_goto (tgt := 28) dX12_isName_66 (by decide) ?_
  exact EvI.tr hB rfl

set_option maxRecDepth 20000 in
set_option maxHeartbeats 2000000 in
theorem kX12_findTable_0 {K : KT} {G : St} {Q : Int32 → St → Prop} {x1 : Int32} (hL : Lay G.2.2) 
    (hB : EvI K mX12_findTable 0 4 [(0, .ref 66), (1, .int x1), (2, .int (-1)), (3, .int 0)] [] G Q) :
    EvI K mX12_findTable 0 0 [(0, .ref 66), (1, .int x1)] [] G Q := by
  refine E_iconst (v := (-1)) dX12_findTable_0 (by decide) ?_
  refine E_istore_n (lv' := [(0, .ref 66), (1, .int x1), (2, .int (-1))]) dX12_findTable_1 rfl (by decide) rfl ?_
  refine E_iconst (v := 0) dX12_findTable_2 (by decide) ?_
  refine E_istore_n (lv' := [(0, .ref 66), (1, .int x1), (2, .int (-1)), (3, .int 0)]) dX12_findTable_3 rfl (by decide) rfl ?_
  exact EvI.tr hB rfl

set_option maxRecDepth 20000 in
set_option maxHeartbeats 2000000 in
theorem kX12_findTable_4 {K : KT} {G : St} {Q : Int32 → St → Prop} {x1 : Int32} {x2 : Int32} {x3 : Int32} (hL : Lay G.2.2) 
    (hB : vp_in x1 2 ∧ (((sI G 72 (Int32.toNatClampNeg x1)) ≤ x3 → Q x2 G) ∧ (¬ (sI G 72 (Int32.toNatClampNeg x1)) ≤ x3 → vp_in ((5 * x1) + x3) 10 ∧ vp_in (sI G 66 7) 1002 ∧ ((¬ (sL G 73 (Int32.toNatClampNeg ((5 * x1) + x3))) = (sL G 70 (Int32.toNatClampNeg (sI G 66 7))) → EvI K mX12_findTable 0 42 [(0, .ref 66), (1, .int x1), (3, .int x3)] [.int x2] G Q) ∧ ((sL G 73 (Int32.toNatClampNeg ((5 * x1) + x3))) = (sL G 70 (Int32.toNatClampNeg (sI G 66 7))) → EvI K mX12_findTable 0 42 [(0, .ref 66), (1, .int x1), (3, .int x3)] [.int x3] G Q))))) :
    EvI K mX12_findTable 0 4 [(0, .ref 66), (1, .int x1), (2, .int x2), (3, .int x3)] [] G Q := by
  refine E_iload_n 3 dX12_findTable_4 rfl rfl ?_
  refine E_aload_n 0 dX12_findTable_5 rfl rfl rfl ?_
  refine E_gR (j := 72) fG_X12_53 rfl (lo_66 hL) (lr_66_10 hL) (by decide) dX12_findTable_6 ?_
  refine E_iload_n 1 dX12_findTable_9 rfl rfl ?_
  obtain ⟨qq1, hB⟩ := hB
  refine E_aI (p := Int32.toNatClampNeg x1) (v := sI G 72 (Int32.toNatClampNeg x1)) (la_72 hL) qq1 rfl rfl dX12_findTable_10 ?_
  refine E_icmp_ge (tgt := 49) dX12_findTable_11 (by decide) (fun c => ?_) (fun c => ?_)
  · have hB := hB.1 c
    refine E_iload_n 2 dX12_findTable_49 rfl rfl ?_
    exact E_iret rfl dX12_findTable_50 ⟨_, rfl, rfl, hB⟩
  · have hB := hB.2 c
    refine E_aload_n 0 dX12_findTable_14 rfl rfl rfl ?_
    refine E_gR (j := 73) fG_X12_56 rfl (lo_66 hL) (lr_66_11 hL) (by decide) dX12_findTable_15 ?_
    refine E_iconst (v := 5) dX12_findTable_18 (by decide) ?_
    refine E_iload_n 1 dX12_findTable_19 rfl rfl ?_
    refine E_imul dX12_findTable_20 ?_
    refine E_iload_n 3 dX12_findTable_21 rfl rfl ?_
    refine E_iadd dX12_findTable_22 ?_
    obtain ⟨qq2, hB⟩ := hB
    refine E_aL (p := Int32.toNatClampNeg ((5 * x1) + x3)) (v := sL G 73 (Int32.toNatClampNeg ((5 * x1) + x3))) (la_73 hL) qq2 rfl rfl dX12_findTable_23 ?_
    refine E_aload_n 0 dX12_findTable_24 rfl rfl rfl ?_
    refine E_gR (j := 70) fG_X12_30 rfl (lo_66 hL) (lr_66_6 hL) (by decide) dX12_findTable_25 ?_
    refine E_aload_n 0 dX12_findTable_28 rfl rfl rfl ?_
    refine E_gI (v := sI G 66 7) fG_X12_179 rfl (lo_66 hL) rfl dX12_findTable_29 ?_
    obtain ⟨qq3, hB⟩ := hB
    refine E_aL (p := Int32.toNatClampNeg (sI G 66 7)) (v := sL G 70 (Int32.toNatClampNeg (sI G 66 7))) (la_70 hL) qq3 rfl rfl dX12_findTable_32 ?_
    refine E_lcmp dX12_findTable_33 ?_
    refine E_if_ne (tgt := 41) dX12_findTable_34 (by decide) (fun c => ?_) (fun c => ?_)
    · have hB := hB.1 ((fun q => c ((lgc_eq (sL G 73 (Int32.toNatClampNeg ((5 * x1) + x3))) (sL G 70 (Int32.toNatClampNeg (sI G 66 7)))).mpr q)))
      refine E_iload_n 2 dX12_findTable_41 rfl rfl ?_
      refine E_sub (lv' := [(0, .ref 66), (1, .int x1), (3, .int x3)]) [0, 1, 3] rfl ?_
      exact EvI.tr hB rfl
    · have hB := hB.2 ((lgc_eq (sL G 73 (Int32.toNatClampNeg ((5 * x1) + x3))) (sL G 70 (Int32.toNatClampNeg (sI G 66 7)))).mp c)
      refine E_iload_n 3 dX12_findTable_37 rfl rfl ?_
      refine E_goto (tgt := 42) dX12_findTable_38 (by decide) ?_
      refine E_sub (lv' := [(0, .ref 66), (1, .int x1), (3, .int x3)]) [0, 1, 3] rfl ?_
      exact EvI.tr hB rfl

set_option maxRecDepth 20000 in
set_option maxHeartbeats 2000000 in
theorem kX12_findTable_42 {K : KT} {G : St} {Q : Int32 → St → Prop} {x1 : Int32} {x3 : Int32} {xs0 : Int32} (hL : Lay G.2.2) 
    (hB : EvI K mX12_findTable 0 4 [(0, .ref 66), (1, .int x1), (2, .int xs0), (3, .int (x3 + 1))] [] G Q) :
    EvI K mX12_findTable 0 42 [(0, .ref 66), (1, .int x1), (3, .int x3)] [.int xs0] G Q := by
  refine E_istore_n (lv' := [(0, .ref 66), (1, .int x1), (2, .int xs0), (3, .int x3)]) dX12_findTable_42 rfl (by decide) rfl ?_
  refine E_iinc (v := x3 + 1) (lv' := [(0, .ref 66), (1, .int x1), (2, .int xs0), (3, .int (x3 + 1))]) 3 dX12_findTable_43 rfl rfl (by decide) rfl ?_
  refine E_goto (tgt := 4) dX12_findTable_46 (by decide) ?_
  exact EvI.tr hB rfl

set_option maxRecDepth 20000 in
set_option maxHeartbeats 2000000 in
theorem kX12_readColumn_0 {K : KT} {G : St} {Q : St → Prop} {x1 : Int32} (hL : Lay G.2.2) 
    (hB : EvV K mX12_readColumn 1 4 [(0, .ref 66), (1, .int x1), (2, .int 0), (3, .int 0)] [] G Q) :
    EvV K mX12_readColumn 1 0 [(0, .ref 66), (1, .int x1)] [] G Q := by
  refine E_iconst (v := 0) dX12_readColumn_0 (by decide) ?_
  refine E_istore_n (lv' := [(0, .ref 66), (1, .int x1), (2, .int 0)]) dX12_readColumn_1 rfl (by decide) rfl ?_
  refine E_iconst (v := 0) dX12_readColumn_2 (by decide) ?_
  refine E_istore_n (lv' := [(0, .ref 66), (1, .int x1), (2, .int 0), (3, .int 0)]) dX12_readColumn_3 rfl (by decide) rfl ?_
  exact EvV.tr hB rfl

set_option maxRecDepth 20000 in
set_option maxHeartbeats 2000000 in
theorem kX12_readColumn_4 {K : KT} {G : St} {Q : St → Prop} {x1 : Int32} {x2 : Int32} {x3 : Int32} (hL : Lay G.2.2) 
    (hB : vp_in x1 10 ∧ (((sI G 74 (Int32.toNatClampNeg x1)) ≤ x3 → EvV K mX12_readColumn 1 60 [(0, .ref 66), (1, .int x1), (2, .int x2)] [] G Q) ∧ (¬ (sI G 74 (Int32.toNatClampNeg x1)) ≤ x3 → ((¬ (sI G 66 8) = 0 → EvV K mX12_readColumn 1 60 [(0, .ref 66), (1, .int x1), (2, .int x2)] [] G Q) ∧ ((sI G 66 8) = 0 → ((¬ x2 = 0 → EvV K mX12_readColumn 1 53 [(0, .ref 66), (1, .int x1), (3, .int x3)] [.int 1] G Q) ∧ (x2 = 0 → vp_in ((4 * x1) + x3) 40 ∧ vp_in (sI G 66 7) 1002 ∧ ((¬ (sL G 75 (Int32.toNatClampNeg ((4 * x1) + x3))) = (sL G 70 (Int32.toNatClampNeg (sI G 66 7))) → EvV K mX12_readColumn 1 53 [(0, .ref 66), (1, .int x1), (3, .int x3)] [.int 0] G Q) ∧ ((sL G 75 (Int32.toNatClampNeg ((4 * x1) + x3))) = (sL G 70 (Int32.toNatClampNeg (sI G 66 7))) → EvV K mX12_readColumn 1 53 [(0, .ref 66), (1, .int x1), (3, .int x3)] [.int 1] G Q))))))))) :
    EvV K mX12_readColumn 1 4 [(0, .ref 66), (1, .int x1), (2, .int x2), (3, .int x3)] [] G Q := by
  refine E_iload_n 3 dX12_readColumn_4 rfl rfl ?_
  refine E_aload_n 0 dX12_readColumn_5 rfl rfl rfl ?_
  refine E_gR (j := 74) fG_X12_59 rfl (lo_66 hL) (lr_66_12 hL) (by decide) dX12_readColumn_6 ?_
  refine E_iload_n 1 dX12_readColumn_9 rfl rfl ?_
  obtain ⟨qq1, hB⟩ := hB
  refine E_aI (p := Int32.toNatClampNeg x1) (v := sI G 74 (Int32.toNatClampNeg x1)) (la_74 hL) qq1 rfl rfl dX12_readColumn_10 ?_
  refine E_icmp_ge (tgt := 60) dX12_readColumn_11 (by decide) (fun c => ?_) (fun c => ?_)
  · have hB := hB.1 c
    refine E_sub (lv' := [(0, .ref 66), (1, .int x1), (2, .int x2)]) [0, 1, 2] rfl ?_
    exact EvV.tr hB rfl
  · have hB := hB.2 c
    refine E_aload_n 0 dX12_readColumn_14 rfl rfl rfl ?_
    refine E_gI (v := sI G 66 8) fG_X12_182 rfl (lo_66 hL) rfl dX12_readColumn_15 ?_
    refine E_if_ne (tgt := 60) dX12_readColumn_18 (by decide) (fun c => ?_) (fun c => ?_)
    · have hB := hB.1 c
      refine E_sub (lv' := [(0, .ref 66), (1, .int x1), (2, .int x2)]) [0, 1, 2] rfl ?_
      exact EvV.tr hB rfl
    · have hB := hB.2 c
      refine E_iload_n 2 dX12_readColumn_21 rfl rfl ?_
      refine E_if_ne (tgt := 48) dX12_readColumn_22 (by decide) (fun c => ?_) (fun c => ?_)
      · have hB := hB.1 c
        refine E_iconst (v := 1) dX12_readColumn_48 (by decide) ?_
        refine E_goto (tgt := 53) dX12_readColumn_49 (by decide) ?_
        refine E_sub (lv' := [(0, .ref 66), (1, .int x1), (3, .int x3)]) [0, 1, 3] rfl ?_
        exact EvV.tr hB rfl
      · have hB := hB.2 c
        refine E_aload_n 0 dX12_readColumn_25 rfl rfl rfl ?_
        refine E_gR (j := 75) fG_X12_62 rfl (lo_66 hL) (lr_66_13 hL) (by decide) dX12_readColumn_26 ?_
        refine E_iconst (v := 4) dX12_readColumn_29 (by decide) ?_
        refine E_iload_n 1 dX12_readColumn_30 rfl rfl ?_
        refine E_imul dX12_readColumn_31 ?_
        refine E_iload_n 3 dX12_readColumn_32 rfl rfl ?_
        refine E_iadd dX12_readColumn_33 ?_
        obtain ⟨qq2, hB⟩ := hB
        refine E_aL (p := Int32.toNatClampNeg ((4 * x1) + x3)) (v := sL G 75 (Int32.toNatClampNeg ((4 * x1) + x3))) (la_75 hL) qq2 rfl rfl dX12_readColumn_34 ?_
        refine E_aload_n 0 dX12_readColumn_35 rfl rfl rfl ?_
        refine E_gR (j := 70) fG_X12_30 rfl (lo_66 hL) (lr_66_6 hL) (by decide) dX12_readColumn_36 ?_
        refine E_aload_n 0 dX12_readColumn_39 rfl rfl rfl ?_
        refine E_gI (v := sI G 66 7) fG_X12_179 rfl (lo_66 hL) rfl dX12_readColumn_40 ?_
        obtain ⟨qq3, hB⟩ := hB
        refine E_aL (p := Int32.toNatClampNeg (sI G 66 7)) (v := sL G 70 (Int32.toNatClampNeg (sI G 66 7))) (la_70 hL) qq3 rfl rfl dX12_readColumn_43 ?_
        refine E_lcmp dX12_readColumn_44 ?_
        refine E_if_ne (tgt := 52) dX12_readColumn_45 (by decide) (fun c => ?_) (fun c => ?_)
        · have hB := hB.1 ((fun q => c ((lgc_eq (sL G 75 (Int32.toNatClampNeg ((4 * x1) + x3))) (sL G 70 (Int32.toNatClampNeg (sI G 66 7)))).mpr q)))
          refine E_iconst (v := 0) dX12_readColumn_52 (by decide) ?_
          refine E_sub (lv' := [(0, .ref 66), (1, .int x1), (3, .int x3)]) [0, 1, 3] rfl ?_
          exact EvV.tr hB rfl
        · have hB := hB.2 ((lgc_eq (sL G 75 (Int32.toNatClampNeg ((4 * x1) + x3))) (sL G 70 (Int32.toNatClampNeg (sI G 66 7)))).mp c)
          refine E_iconst (v := 1) dX12_readColumn_48 (by decide) ?_
          refine E_goto (tgt := 53) dX12_readColumn_49 (by decide) ?_
          refine E_sub (lv' := [(0, .ref 66), (1, .int x1), (3, .int x3)]) [0, 1, 3] rfl ?_
          exact EvV.tr hB rfl

set_option maxRecDepth 20000 in
set_option maxHeartbeats 2000000 in
theorem kX12_readColumn_53 {K : KT} {G : St} {Q : St → Prop} {x1 : Int32} {x3 : Int32} {xs0 : Int32} (hL : Lay G.2.2) 
    (hB : EvV K mX12_readColumn 1 4 [(0, .ref 66), (1, .int x1), (2, .int xs0), (3, .int (x3 + 1))] [] G Q) :
    EvV K mX12_readColumn 1 53 [(0, .ref 66), (1, .int x1), (3, .int x3)] [.int xs0] G Q := by
  refine E_istore_n (lv' := [(0, .ref 66), (1, .int x1), (2, .int xs0), (3, .int x3)]) dX12_readColumn_53 rfl (by decide) rfl ?_
  refine E_iinc (v := x3 + 1) (lv' := [(0, .ref 66), (1, .int x1), (2, .int xs0), (3, .int (x3 + 1))]) 3 dX12_readColumn_54 rfl rfl (by decide) rfl ?_
  refine E_goto (tgt := 4) dX12_readColumn_57 (by decide) ?_
  exact EvV.tr hB rfl

set_option maxRecDepth 20000 in
set_option maxHeartbeats 2000000 in
theorem kX12_readColumn_60 {K : KT} {G : St} {Q : St → Prop} {x1 : Int32} {x2 : Int32} (hL : Lay G.2.2) 
    (hB : EvI K mX12_isName 0 0 [(0, .ref 66)] [] G (fun r1 G1 => ((¬ r1 = 0 → ((x2 = 0 → vp_in x1 10 ∧ ((¬ (sI G1 74 (Int32.toNatClampNeg x1)) = 4 → EvV K mX12_readColumn 1 102 [(0, .ref 66), (1, .int x1)] [] G1 Q) ∧ ((sI G1 74 (Int32.toNatClampNeg x1)) = 4 → EvV K mX12_wrong 0 0 [(0, .ref 66), (1, .int 5)] [] G1 (fun G3 => EvV K mX12_readColumn 1 102 [(0, .ref 66), (1, .int x1)] [] G3 Q)))) ∧ (¬ x2 = 0 → EvV K mX12_wrong 0 0 [(0, .ref 66), (1, .int 3)] [] G1 (fun G4 => EvV K mX12_readColumn 1 102 [(0, .ref 66), (1, .int x1)] [] G4 Q)))) ∧ (r1 = 0 → EvV K mX12_wrong 0 0 [(0, .ref 66), (1, .int 1)] [] G1 (fun G5 => EvV K mX12_readColumn 1 102 [(0, .ref 66), (1, .int x1)] [] G5 Q))))) :
    EvV K mX12_readColumn 1 60 [(0, .ref 66), (1, .int x1), (2, .int x2)] [] G Q := by
  refine E_aload_n 0 dX12_readColumn_60 rfl rfl rfl ?_
  refine E_cV (ci := 11) (as := []) (st := []) cm_X12_isName cV_X12_207 ⟨_, _, rfl⟩ (by decide) (lo_66 hL) rfl rfl (by decide) (Nat.le_of_ble_eq_true rfl) (Nat.le_of_ble_eq_true rfl) dX12_readColumn_61 hB (fun r G1 hr => ?_)
  obtain ⟨r1, rfl, hE1, hB⟩ := hr
  have hL1 : Lay G1.2.2 := by rw [hE1]; exact hL
  have hE1 : G1.2.2 = G.2.2 := hE1
  show Ev K mX12_readColumn 1 64 [(0, .ref 66), (1, .int x1), (2, .int x2)] [.int r1] G1 _
  refine E_if_ne (tgt := 75) dX12_readColumn_64 (by decide) (fun c => ?_) (fun c => ?_)
  · have hB := hB.1 c
    refine E_iload_n 2 dX12_readColumn_75 rfl rfl ?_
    refine E_if_eq (tgt := 87) dX12_readColumn_76 (by decide) (fun c => ?_) (fun c => ?_)
    · have hB := hB.1 c
      refine E_aload_n 0 dX12_readColumn_87 rfl rfl rfl ?_
      refine E_gR (j := 74) fG_X12_59 rfl (lo_66 hL1) (lr_66_12 hL1) (by decide) dX12_readColumn_88 ?_
      refine E_iload_n 1 dX12_readColumn_91 rfl rfl ?_
      obtain ⟨qq2, hB⟩ := hB
      refine E_aI (p := Int32.toNatClampNeg x1) (v := sI G1 74 (Int32.toNatClampNeg x1)) (la_74 hL1) qq2 rfl rfl dX12_readColumn_92 ?_
      refine E_iconst (v := 4) dX12_readColumn_93 (by decide) ?_
      refine E_icmp_ne (tgt := 102) dX12_readColumn_94 (by decide) (fun c => ?_) (fun c => ?_)
      · have hB := hB.1 c
        refine E_sub (lv' := [(0, .ref 66), (1, .int x1)]) [0, 1] rfl ?_
        exact EvV.tr hB hE1
      · have hB := hB.2 c
        refine E_aload_n 0 dX12_readColumn_97 rfl rfl rfl ?_
        refine E_iconst (v := 5) dX12_readColumn_98 (by decide) ?_
        refine E_cV (ci := 11) (as := [.int 5]) (st := []) cm_X12_wrong cV_X12_188 ⟨_, _, rfl⟩ (by decide) (lo_66 hL1) rfl rfl (by decide) (Nat.le_of_ble_eq_true rfl) (Nat.le_of_ble_eq_true rfl) dX12_readColumn_99 hB (fun r G3 hr => ?_)
        obtain ⟨rfl, hE3, hB⟩ := hr
        have hL3 : Lay G3.2.2 := by rw [hE3]; exact hL1
        have hE3 : G3.2.2 = G.2.2 := hE3.trans hE1
        show Ev K mX12_readColumn 1 102 [(0, .ref 66), (1, .int x1), (2, .int x2)] [] G3 _
        refine E_sub (lv' := [(0, .ref 66), (1, .int x1)]) [0, 1] rfl ?_
        exact EvV.tr hB hE3
    · have hB := hB.2 c
      refine E_aload_n 0 dX12_readColumn_79 rfl rfl rfl ?_
      refine E_iconst (v := 3) dX12_readColumn_80 (by decide) ?_
      refine E_cV (ci := 11) (as := [.int 3]) (st := []) cm_X12_wrong cV_X12_188 ⟨_, _, rfl⟩ (by decide) (lo_66 hL1) rfl rfl (by decide) (Nat.le_of_ble_eq_true rfl) (Nat.le_of_ble_eq_true rfl) dX12_readColumn_81 hB (fun r G4 hr => ?_)
      obtain ⟨rfl, hE4, hB⟩ := hr
      have hL4 : Lay G4.2.2 := by rw [hE4]; exact hL1
      have hE4 : G4.2.2 = G.2.2 := hE4.trans hE1
      show Ev K mX12_readColumn 1 84 [(0, .ref 66), (1, .int x1), (2, .int x2)] [] G4 _
      refine E_goto (tgt := 102) dX12_readColumn_84 (by decide) ?_
      refine E_sub (lv' := [(0, .ref 66), (1, .int x1)]) [0, 1] rfl ?_
      exact EvV.tr hB hE4
  · have hB := hB.2 c
    refine E_aload_n 0 dX12_readColumn_67 rfl rfl rfl ?_
    refine E_iconst (v := 1) dX12_readColumn_68 (by decide) ?_
    refine E_cV (ci := 11) (as := [.int 1]) (st := []) cm_X12_wrong cV_X12_188 ⟨_, _, rfl⟩ (by decide) (lo_66 hL1) rfl rfl (by decide) (Nat.le_of_ble_eq_true rfl) (Nat.le_of_ble_eq_true rfl) dX12_readColumn_69 hB (fun r G5 hr => ?_)
    obtain ⟨rfl, hE5, hB⟩ := hr
    have hL5 : Lay G5.2.2 := by rw [hE5]; exact hL1
    have hE5 : G5.2.2 = G.2.2 := hE5.trans hE1
    show Ev K mX12_readColumn 1 72 [(0, .ref 66), (1, .int x1), (2, .int x2)] [] G5 _
    refine E_goto (tgt := 102) dX12_readColumn_72 (by decide) ?_
    refine E_sub (lv' := [(0, .ref 66), (1, .int x1)]) [0, 1] rfl ?_
    exact EvV.tr hB hE5

set_option maxRecDepth 20000 in
set_option maxHeartbeats 2000000 in
theorem kX12_readColumn_102 {K : KT} {G : St} {Q : St → Prop} {x1 : Int32} (hL : Lay G.2.2) 
    (hB : (((sI G 66 8) ≤ 0 → vp_in x1 10 ∧ vp_in (sI G 66 7) 1002 ∧ vp_in ((4 * x1) + (sI G 74 (Int32.toNatClampNeg x1))) 40 ∧ EvI K mX12_isName 0 0 [(0, .ref 66)] [] (uI (uL G 75 (Int32.toNatClampNeg ((4 * x1) + (sI G 74 (Int32.toNatClampNeg x1)))) (sL G 70 (Int32.toNatClampNeg (sI G 66 7)))) 66 7 ((sI G 66 7) + 1)) (fun r4 G4 => ((r4 = 0 → EvV K mX12_readColumn 1 162 [(0, .ref 66), (1, .int x1), (3, .int ((4 * x1) + (sI G 74 (Int32.toNatClampNeg x1))))] [.int (-1)] G4 Q) ∧ (¬ r4 = 0 → EvI K mX12_findTable 0 0 [(0, .ref 66), (1, .int 1)] [] G4 (fun r5 G5 => EvV K mX12_readColumn 1 162 [(0, .ref 66), (1, .int x1), (3, .int ((4 * x1) + (sI G 74 (Int32.toNatClampNeg x1))))] [.int r5] G5 Q))))) ∧ (¬ (sI G 66 8) ≤ 0 → Q G))) :
    EvV K mX12_readColumn 1 102 [(0, .ref 66), (1, .int x1)] [] G Q := by
  refine E_aload_n 0 dX12_readColumn_102 rfl rfl rfl ?_
  refine E_gI (v := sI G 66 8) fG_X12_182 rfl (lo_66 hL) rfl dX12_readColumn_103 ?_
  refine E_if_le (tgt := 110) dX12_readColumn_106 (by decide) (fun c => ?_) (fun c => ?_)
  · have hB := hB.1 c
    refine E_iconst (v := 4) dX12_readColumn_110 (by decide) ?_
    refine E_iload_n 1 dX12_readColumn_111 rfl rfl ?_
    refine E_imul dX12_readColumn_112 ?_
    refine E_aload_n 0 dX12_readColumn_113 rfl rfl rfl ?_
    refine E_gR (j := 74) fG_X12_59 rfl (lo_66 hL) (lr_66_12 hL) (by decide) dX12_readColumn_114 ?_
    refine E_iload_n 1 dX12_readColumn_117 rfl rfl ?_
    obtain ⟨qq1, hB⟩ := hB
    refine E_aI (p := Int32.toNatClampNeg x1) (v := sI G 74 (Int32.toNatClampNeg x1)) (la_74 hL) qq1 rfl rfl dX12_readColumn_118 ?_
    refine E_iadd dX12_readColumn_119 ?_
    refine E_istore_n (lv' := [(0, .ref 66), (1, .int x1), (3, .int ((4 * x1) + (sI G 74 (Int32.toNatClampNeg x1))))]) dX12_readColumn_120 rfl (by decide) rfl ?_
    refine E_aload_n 0 dX12_readColumn_121 rfl rfl rfl ?_
    refine E_gR (j := 75) fG_X12_62 rfl (lo_66 hL) (lr_66_13 hL) (by decide) dX12_readColumn_122 ?_
    refine E_iload_n 2 dX12_readColumn_125 rfl rfl ?_
    refine E_aload_n 0 dX12_readColumn_126 rfl rfl rfl ?_
    refine E_gR (j := 70) fG_X12_30 rfl (lo_66 hL) (lr_66_6 hL) (by decide) dX12_readColumn_127 ?_
    refine E_aload_n 0 dX12_readColumn_130 rfl rfl rfl ?_
    refine E_gI (v := sI G 66 7) fG_X12_179 rfl (lo_66 hL) rfl dX12_readColumn_131 ?_
    obtain ⟨qq2, hB⟩ := hB
    refine E_aL (p := Int32.toNatClampNeg (sI G 66 7)) (v := sL G 70 (Int32.toNatClampNeg (sI G 66 7))) (la_70 hL) qq2 rfl rfl dX12_readColumn_134 ?_
    obtain ⟨qq3, hB⟩ := hB
    refine E_sL (p := Int32.toNatClampNeg ((4 * x1) + (sI G 74 (Int32.toNatClampNeg x1)))) (la_75 hL) qq3 rfl dX12_readColumn_135 ?_
    refine E_aload_n 0 dX12_readColumn_136 rfl rfl rfl ?_
    refine E_dup dX12_readColumn_137 rfl ?_
    refine E_gI (v := sI G 66 7) fG_X12_179 rfl (lo_66 hL) rfl dX12_readColumn_138 ?_
    refine E_iconst (v := 1) dX12_readColumn_141 (by decide) ?_
    refine E_iadd dX12_readColumn_142 ?_
    refine E_pI fP_X12_179 rfl (lo_66 hL) dX12_readColumn_143 ?_
    refine E_aload_n 0 dX12_readColumn_146 rfl rfl rfl ?_
    refine E_cV (ci := 11) (as := []) (st := []) cm_X12_isName cV_X12_207 ⟨_, _, rfl⟩ (by decide) (lo_66 hL) rfl rfl (by decide) (Nat.le_of_ble_eq_true rfl) (Nat.le_of_ble_eq_true rfl) dX12_readColumn_147 hB (fun r G4 hr => ?_)
    obtain ⟨r4, rfl, hE4, hB⟩ := hr
    have hL4 : Lay G4.2.2 := by rw [hE4]; exact hL
    have hE4 : G4.2.2 = G.2.2 := hE4
    show Ev K mX12_readColumn 1 150 [(0, .ref 66), (1, .int x1), (3, .int ((4 * x1) + (sI G 74 (Int32.toNatClampNeg x1))))] [.int r4] G4 _
    refine E_if_eq (tgt := 161) dX12_readColumn_150 (by decide) (fun c => ?_) (fun c => ?_)
    · have hB := hB.1 c
      refine E_iconst (v := (-1)) dX12_readColumn_161 (by decide) ?_
      exact EvV.tr hB hE4
    · have hB := hB.2 c
      refine E_aload_n 0 dX12_readColumn_153 rfl rfl rfl ?_
      refine E_iconst (v := 1) dX12_readColumn_154 (by decide) ?_
      refine E_cV (ci := 11) (as := [.int 1]) (st := []) cm_X12_findTable cV_X12_211 ⟨_, _, rfl⟩ (by decide) (lo_66 hL4) rfl rfl (by decide) (Nat.le_of_ble_eq_true rfl) (Nat.le_of_ble_eq_true rfl) dX12_readColumn_155 hB (fun r G5 hr => ?_)
      obtain ⟨r5, rfl, hE5, hB⟩ := hr
      have hL5 : Lay G5.2.2 := by rw [hE5]; exact hL4
      have hE5 : G5.2.2 = G.2.2 := hE5.trans hE4
      show Ev K mX12_readColumn 1 158 [(0, .ref 66), (1, .int x1), (3, .int ((4 * x1) + (sI G 74 (Int32.toNatClampNeg x1))))] [.int r5] G5 _
      refine E_goto (tgt := 162) dX12_readColumn_158 (by decide) ?_
      exact EvV.tr hB hE5
  · have hB := hB.2 c
    exact E_vret rfl dX12_readColumn_109 ⟨rfl, rfl, hB⟩

set_option maxRecDepth 20000 in
set_option maxHeartbeats 2000000 in
theorem kX12_readColumn_162 {K : KT} {G : St} {Q : St → Prop} {x1 : Int32} {x3 : Int32} {xs0 : Int32} (hL : Lay G.2.2) 
    (hB : EvI K mX12_isWord 0 0 [(0, .ref 66), (1, .int 1)] [] G (fun r1 G1 => ((¬ r1 = 0 → EvV K mX12_readColumn 1 180 [(0, .ref 66), (1, .int x1), (3, .int x3)] [] G1 Q) ∧ (r1 = 0 → EvI K mX12_isWord 0 0 [(0, .ref 66), (1, .int 2)] [] G1 (fun r2 G2 => ((r2 = 0 → EvI K mX12_isName 0 0 [(0, .ref 66)] [] G2 (fun r3 G3 => ((¬ r3 = 0 → ((0 ≤ xs0 → vp_in x3 40 ∧ EvV K mX12_readColumn 1 239 [(0, .ref 66), (1, .int x1)] [] (uI G3 76 (Int32.toNatClampNeg x3) xs0) Q) ∧ (¬ 0 ≤ xs0 → EvV K mX12_wrong 0 0 [(0, .ref 66), (1, .int 2)] [] G3 (fun G5 => EvV K mX12_readColumn 1 239 [(0, .ref 66), (1, .int x1)] [] G5 Q)))) ∧ (r3 = 0 → EvV K mX12_wrong 0 0 [(0, .ref 66), (1, .int 1)] [] G3 (fun G6 => EvV K mX12_readColumn 1 239 [(0, .ref 66), (1, .int x1)] [] G6 Q))))) ∧ (¬ r2 = 0 → EvV K mX12_readColumn 1 180 [(0, .ref 66), (1, .int x1), (3, .int x3)] [] G2 Q))))))) :
    EvV K mX12_readColumn 1 162 [(0, .ref 66), (1, .int x1), (3, .int x3)] [.int xs0] G Q := by
  refine E_istore (lv' := [(0, .ref 66), (1, .int x1), (3, .int x3), (4, .int xs0)]) dX12_readColumn_162 (by decide) rfl ?_
  refine E_aload_n 0 dX12_readColumn_164 rfl rfl rfl ?_
  refine E_iconst (v := 1) dX12_readColumn_165 (by decide) ?_
  refine E_cV (ci := 11) (as := [.int 1]) (st := []) cm_X12_isWord cV_X12_192 ⟨_, _, rfl⟩ (by decide) (lo_66 hL) rfl rfl (by decide) (Nat.le_of_ble_eq_true rfl) (Nat.le_of_ble_eq_true rfl) dX12_readColumn_166 hB (fun r G1 hr => ?_)
  obtain ⟨r1, rfl, hE1, hB⟩ := hr
  have hL1 : Lay G1.2.2 := by rw [hE1]; exact hL
  have hE1 : G1.2.2 = G.2.2 := hE1
  show Ev K mX12_readColumn 1 169 [(0, .ref 66), (1, .int x1), (3, .int x3), (4, .int xs0)] [.int r1] G1 _
  refine E_if_ne (tgt := 180) dX12_readColumn_169 (by decide) (fun c => ?_) (fun c => ?_)
  · have hB := hB.1 c
    refine E_sub (lv' := [(0, .ref 66), (1, .int x1), (3, .int x3)]) [0, 1, 2] rfl ?_
    exact EvV.tr hB hE1
  · have hB := hB.2 c
    refine E_aload_n 0 dX12_readColumn_172 rfl rfl rfl ?_
    refine E_iconst (v := 2) dX12_readColumn_173 (by decide) ?_
    refine E_cV (ci := 11) (as := [.int 2]) (st := []) cm_X12_isWord cV_X12_192 ⟨_, _, rfl⟩ (by decide) (lo_66 hL1) rfl rfl (by decide) (Nat.le_of_ble_eq_true rfl) (Nat.le_of_ble_eq_true rfl) dX12_readColumn_174 hB (fun r G2 hr => ?_)
    obtain ⟨r2, rfl, hE2, hB⟩ := hr
    have hL2 : Lay G2.2.2 := by rw [hE2]; exact hL1
    have hE2 : G2.2.2 = G.2.2 := hE2.trans hE1
    show Ev K mX12_readColumn 1 177 [(0, .ref 66), (1, .int x1), (3, .int x3), (4, .int xs0)] [.int r2] G2 _
    refine E_if_eq (tgt := 203) dX12_readColumn_177 (by decide) (fun c => ?_) (fun c => ?_)
    · have hB := hB.1 c
      refine E_aload_n 0 dX12_readColumn_203 rfl rfl rfl ?_
      refine E_cV (ci := 11) (as := []) (st := []) cm_X12_isName cV_X12_207 ⟨_, _, rfl⟩ (by decide) (lo_66 hL2) rfl rfl (by decide) (Nat.le_of_ble_eq_true rfl) (Nat.le_of_ble_eq_true rfl) dX12_readColumn_204 hB (fun r G3 hr => ?_)
      obtain ⟨r3, rfl, hE3, hB⟩ := hr
      have hL3 : Lay G3.2.2 := by rw [hE3]; exact hL2
      have hE3 : G3.2.2 = G.2.2 := hE3.trans hE2
      show Ev K mX12_readColumn 1 207 [(0, .ref 66), (1, .int x1), (3, .int x3), (4, .int xs0)] [.int r3] G3 _
      refine E_if_ne (tgt := 218) dX12_readColumn_207 (by decide) (fun c => ?_) (fun c => ?_)
      · have hB := hB.1 c
        refine E_iload 3 dX12_readColumn_218 rfl ?_
        refine E_if_ge (tgt := 231) dX12_readColumn_220 (by decide) (fun c => ?_) (fun c => ?_)
        · have hB := hB.1 c
          refine E_aload_n 0 dX12_readColumn_231 rfl rfl rfl ?_
          refine E_gR (j := 76) fG_X12_65 rfl (lo_66 hL3) (lr_66_14 hL3) (by decide) dX12_readColumn_232 ?_
          refine E_iload_n 2 dX12_readColumn_235 rfl rfl ?_
          refine E_iload 3 dX12_readColumn_236 rfl ?_
          obtain ⟨qq4, hB⟩ := hB
          refine E_sI (p := Int32.toNatClampNeg x3) (la_76 hL3) qq4 rfl dX12_readColumn_238 ?_
          refine E_sub (lv' := [(0, .ref 66), (1, .int x1)]) [0, 1] rfl ?_
          exact EvV.tr hB hE3
        · have hB := hB.2 c
          refine E_aload_n 0 dX12_readColumn_223 rfl rfl rfl ?_
          refine E_iconst (v := 2) dX12_readColumn_224 (by decide) ?_
          refine E_cV (ci := 11) (as := [.int 2]) (st := []) cm_X12_wrong cV_X12_188 ⟨_, _, rfl⟩ (by decide) (lo_66 hL3) rfl rfl (by decide) (Nat.le_of_ble_eq_true rfl) (Nat.le_of_ble_eq_true rfl) dX12_readColumn_225 hB (fun r G5 hr => ?_)
          obtain ⟨rfl, hE5, hB⟩ := hr
          have hL5 : Lay G5.2.2 := by rw [hE5]; exact hL3
          have hE5 : G5.2.2 = G.2.2 := hE5.trans hE3
          show Ev K mX12_readColumn 1 228 [(0, .ref 66), (1, .int x1), (3, .int x3), (4, .int xs0)] [] G5 _
          refine E_goto (tgt := 239) dX12_readColumn_228 (by decide) ?_
          refine E_sub (lv' := [(0, .ref 66), (1, .int x1)]) [0, 1] rfl ?_
          exact EvV.tr hB hE5
      · have hB := hB.2 c
        refine E_aload_n 0 dX12_readColumn_210 rfl rfl rfl ?_
        refine E_iconst (v := 1) dX12_readColumn_211 (by decide) ?_
        refine E_cV (ci := 11) (as := [.int 1]) (st := []) cm_X12_wrong cV_X12_188 ⟨_, _, rfl⟩ (by decide) (lo_66 hL3) rfl rfl (by decide) (Nat.le_of_ble_eq_true rfl) (Nat.le_of_ble_eq_true rfl) dX12_readColumn_212 hB (fun r G6 hr => ?_)
        obtain ⟨rfl, hE6, hB⟩ := hr
        have hL6 : Lay G6.2.2 := by rw [hE6]; exact hL3
        have hE6 : G6.2.2 = G.2.2 := hE6.trans hE3
        show Ev K mX12_readColumn 1 215 [(0, .ref 66), (1, .int x1), (3, .int x3), (4, .int xs0)] [] G6 _
        refine E_goto (tgt := 239) dX12_readColumn_215 (by decide) ?_
        refine E_sub (lv' := [(0, .ref 66), (1, .int x1)]) [0, 1] rfl ?_
        exact EvV.tr hB hE6
    · have hB := hB.2 c
      refine E_sub (lv' := [(0, .ref 66), (1, .int x1), (3, .int x3)]) [0, 1, 2] rfl ?_
      exact EvV.tr hB hE2

set_option maxRecDepth 20000 in
set_option maxHeartbeats 2000000 in
theorem kX12_readColumn_180 {K : KT} {G : St} {Q : St → Prop} {x1 : Int32} {x3 : Int32} (hL : Lay G.2.2) 
    (hB : EvI K mX12_isWord 0 0 [(0, .ref 66), (1, .int 1)] [] G (fun r1 G1 => ((r1 = 0 → vp_in x3 40 ∧ EvV K mX12_readColumn 1 239 [(0, .ref 66), (1, .int x1)] [] (uI G1 76 (Int32.toNatClampNeg x3) 6) Q) ∧ (¬ r1 = 0 → vp_in x3 40 ∧ EvV K mX12_readColumn 1 239 [(0, .ref 66), (1, .int x1)] [] (uI G1 76 (Int32.toNatClampNeg x3) 5) Q)))) :
    EvV K mX12_readColumn 1 180 [(0, .ref 66), (1, .int x1), (3, .int x3)] [] G Q := by
  refine E_aload_n 0 dX12_readColumn_180 rfl rfl rfl ?_
  refine E_gR (j := 76) fG_X12_65 rfl (lo_66 hL) (lr_66_14 hL) (by decide) dX12_readColumn_181 ?_
  refine E_iload_n 2 dX12_readColumn_184 rfl rfl ?_
  refine E_aload_n 0 dX12_readColumn_185 rfl rfl rfl ?_
  refine E_iconst (v := 1) dX12_readColumn_186 (by decide) ?_
  refine E_cV (ci := 11) (as := [.int 1]) (st := [.int x3, .ref 76]) cm_X12_isWord cV_X12_192 ⟨_, _, rfl⟩ (by decide) (lo_66 hL) rfl rfl (by decide) (Nat.le_of_ble_eq_true rfl) (Nat.le_of_ble_eq_true rfl) dX12_readColumn_187 hB (fun r G1 hr => ?_)
  obtain ⟨r1, rfl, hE1, hB⟩ := hr
  have hL1 : Lay G1.2.2 := by rw [hE1]; exact hL
  have hE1 : G1.2.2 = G.2.2 := hE1
  show Ev K mX12_readColumn 1 190 [(0, .ref 66), (1, .int x1), (3, .int x3)] [.int r1, .int x3, .ref 76] G1 _
  refine E_if_eq (tgt := 197) dX12_readColumn_190 (by decide) (fun c => ?_) (fun c => ?_)
  · have hB := hB.1 c
    refine E_bipush (v := 6) dX12_readColumn_197 (by decide) ?_
    obtain ⟨qq2, hB⟩ := hB
    refine E_sI (p := Int32.toNatClampNeg x3) (la_76 hL1) qq2 rfl dX12_readColumn_199 ?_
    refine E_goto (tgt := 239) dX12_readColumn_200 (by decide) ?_
    refine E_sub (lv' := [(0, .ref 66), (1, .int x1)]) [0, 1] rfl ?_
    exact EvV.tr hB hE1
  · have hB := hB.2 c
    refine E_iconst (v := 5) dX12_readColumn_193 (by decide) ?_
    refine E_goto (tgt := 199) dX12_readColumn_194 (by decide) ?_
    obtain ⟨qq3, hB⟩ := hB
    refine E_sI (p := Int32.toNatClampNeg x3) (la_76 hL1) qq3 rfl dX12_readColumn_199 ?_
    refine E_goto (tgt := 239) dX12_readColumn_200 (by decide) ?_
    refine E_sub (lv' := [(0, .ref 66), (1, .int x1)]) [0, 1] rfl ?_
    exact EvV.tr hB hE1

set_option maxRecDepth 20000 in
set_option maxHeartbeats 2000000 in
theorem kX12_readColumn_239 {K : KT} {G : St} {Q : St → Prop} {x1 : Int32} (hL : Lay G.2.2) 
    (hB : ((¬ (sI G 66 8) = 0 → Q G) ∧ ((sI G 66 8) = 0 → vp_in x1 10 ∧ vp_in x1 10 ∧ Q (uI (uI G 66 7 ((sI G 66 7) + 1)) 74 (Int32.toNatClampNeg x1) ((sI G 74 (Int32.toNatClampNeg x1)) + 1))))) :
    EvV K mX12_readColumn 1 239 [(0, .ref 66), (1, .int x1)] [] G Q := by
  refine E_aload_n 0 dX12_readColumn_239 rfl rfl rfl ?_
  refine E_gI (v := sI G 66 8) fG_X12_182 rfl (lo_66 hL) rfl dX12_readColumn_240 ?_
  refine E_if_ne (tgt := 266) dX12_readColumn_243 (by decide) (fun c => ?_) (fun c => ?_)
  · have hB := hB.1 c
    exact E_vret rfl dX12_readColumn_266 ⟨rfl, rfl, hB⟩
  · have hB := hB.2 c
    refine E_aload_n 0 dX12_readColumn_246 rfl rfl rfl ?_
    refine E_dup dX12_readColumn_247 rfl ?_
    refine E_gI (v := sI G 66 7) fG_X12_179 rfl (lo_66 hL) rfl dX12_readColumn_248 ?_
    refine E_iconst (v := 1) dX12_readColumn_251 (by decide) ?_
    refine E_iadd dX12_readColumn_252 ?_
    refine E_pI fP_X12_179 rfl (lo_66 hL) dX12_readColumn_253 ?_
    refine E_aload_n 0 dX12_readColumn_256 rfl rfl rfl ?_
    refine E_gR (j := 74) fG_X12_59 rfl (lo_66 hL) (lr_66_12 hL) (by decide) dX12_readColumn_257 ?_
    refine E_iload_n 1 dX12_readColumn_260 rfl rfl ?_
    refine E_dup2 dX12_readColumn_261 rfl rfl ?_
    obtain ⟨qq1, hB⟩ := hB
    refine E_aI (p := Int32.toNatClampNeg x1) (v := sI G 74 (Int32.toNatClampNeg x1)) (la_74 hL) qq1 rfl rfl dX12_readColumn_262 ?_
    refine E_iconst (v := 1) dX12_readColumn_263 (by decide) ?_
    refine E_iadd dX12_readColumn_264 ?_
    obtain ⟨qq2, hB⟩ := hB
    refine E_sI (p := Int32.toNatClampNeg x1) (la_74 hL) qq2 rfl dX12_readColumn_265 ?_
    exact E_vret rfl dX12_readColumn_266 ⟨rfl, rfl, hB⟩

set_option maxRecDepth 20000 in
set_option maxHeartbeats 2000000 in
theorem kX12_readTable_0 {K : KT} {G : St} {Q : St → Prop}  (hL : Lay G.2.2) 
    (hB : EvI K mX12_isWord 0 0 [(0, .ref 66), (1, .int 0)] [] G (fun r1 G1 => ((¬ r1 = 0 → ((¬ (sI G1 72 1) = 5 → EvV K mX12_readTable 2 31 [(0, .ref 66)] [] G1 Q) ∧ ((sI G1 72 1) = 5 → EvV K mX12_wrong 0 0 [(0, .ref 66), (1, .int 5)] [] G1 (fun G2 => EvV K mX12_readTable 2 31 [(0, .ref 66)] [] G2 Q)))) ∧ (r1 = 0 → EvV K mX12_wrong 0 0 [(0, .ref 66), (1, .int 1)] [] G1 (fun G3 => EvV K mX12_readTable 2 31 [(0, .ref 66)] [] G3 Q))))) :
    EvV K mX12_readTable 2 0 [(0, .ref 66)] [] G Q := by
  refine E_aload_n 0 dX12_readTable_0 rfl rfl rfl ?_
  refine E_iconst (v := 0) dX12_readTable_1 (by decide) ?_
  refine E_cV (ci := 11) (as := [.int 0]) (st := []) cm_X12_isWord cV_X12_192 ⟨_, _, rfl⟩ (by decide) (lo_66 hL) rfl rfl (by decide) (Nat.le_of_ble_eq_true rfl) (Nat.le_of_ble_eq_true rfl) dX12_readTable_2 hB (fun r G1 hr => ?_)
  obtain ⟨r1, rfl, hE1, hB⟩ := hr
  have hL1 : Lay G1.2.2 := by rw [hE1]; exact hL
  have hE1 : G1.2.2 = G.2.2 := hE1
  show Ev K mX12_readTable 2 5 [(0, .ref 66)] [.int r1] G1 _
  refine E_if_ne (tgt := 16) dX12_readTable_5 (by decide) (fun c => ?_) (fun c => ?_)
  · have hB := hB.1 c
    refine E_aload_n 0 dX12_readTable_16 rfl rfl rfl ?_
    refine E_gR (j := 72) fG_X12_53 rfl (lo_66 hL1) (lr_66_10 hL1) (by decide) dX12_readTable_17 ?_
    refine E_iconst (v := 1) dX12_readTable_20 (by decide) ?_
    refine E_aI (p := 1) (v := sI G1 72 1) (la_72 hL1) (by unfold vp_in; decide) (by decide) rfl dX12_readTable_21 ?_
    refine E_iconst (v := 5) dX12_readTable_22 (by decide) ?_
    refine E_icmp_ne (tgt := 31) dX12_readTable_23 (by decide) (fun c => ?_) (fun c => ?_)
    · have hB := hB.1 c
      exact EvV.tr hB hE1
    · have hB := hB.2 c
      refine E_aload_n 0 dX12_readTable_26 rfl rfl rfl ?_
      refine E_iconst (v := 5) dX12_readTable_27 (by decide) ?_
      refine E_cV (ci := 11) (as := [.int 5]) (st := []) cm_X12_wrong cV_X12_188 ⟨_, _, rfl⟩ (by decide) (lo_66 hL1) rfl rfl (by decide) (Nat.le_of_ble_eq_true rfl) (Nat.le_of_ble_eq_true rfl) dX12_readTable_28 hB (fun r G2 hr => ?_)
      obtain ⟨rfl, hE2, hB⟩ := hr
      have hL2 : Lay G2.2.2 := by rw [hE2]; exact hL1
      have hE2 : G2.2.2 = G.2.2 := hE2.trans hE1
      show Ev K mX12_readTable 2 31 [(0, .ref 66)] [] G2 _
      exact EvV.tr hB hE2
  · have hB := hB.2 c
    refine E_aload_n 0 dX12_readTable_8 rfl rfl rfl ?_
    refine E_iconst (v := 1) dX12_readTable_9 (by decide) ?_
    refine E_cV (ci := 11) (as := [.int 1]) (st := []) cm_X12_wrong cV_X12_188 ⟨_, _, rfl⟩ (by decide) (lo_66 hL1) rfl rfl (by decide) (Nat.le_of_ble_eq_true rfl) (Nat.le_of_ble_eq_true rfl) dX12_readTable_10 hB (fun r G3 hr => ?_)
    obtain ⟨rfl, hE3, hB⟩ := hr
    have hL3 : Lay G3.2.2 := by rw [hE3]; exact hL1
    have hE3 : G3.2.2 = G.2.2 := hE3.trans hE1
    show Ev K mX12_readTable 2 13 [(0, .ref 66)] [] G3 _
    refine E_goto (tgt := 31) dX12_readTable_13 (by decide) ?_
    exact EvV.tr hB hE3

set_option maxRecDepth 20000 in
set_option maxHeartbeats 2000000 in
theorem kX12_readTable_31 {K : KT} {G : St} {Q : St → Prop}  (hL : Lay G.2.2) 
    (hB : (((sI G 66 8) ≤ 0 → EvI K mX12_isName 0 0 [(0, .ref 66)] [] (uI G 66 7 ((sI G 66 7) + 1)) (fun r1 G1 => ((¬ r1 = 0 → EvI K mX12_findTable 0 0 [(0, .ref 66), (1, .int 1)] [] G1 (fun r2 G2 => ((r2 < 0 → EvV K mX12_readTable 2 77 [(0, .ref 66)] [] G2 Q) ∧ (¬ r2 < 0 → EvV K mX12_wrong 0 0 [(0, .ref 66), (1, .int 3)] [] G2 (fun G3 => EvV K mX12_readTable 2 77 [(0, .ref 66)] [] G3 Q))))) ∧ (r1 = 0 → EvV K mX12_wrong 0 0 [(0, .ref 66), (1, .int 1)] [] G1 (fun G4 => EvV K mX12_readTable 2 77 [(0, .ref 66)] [] G4 Q))))) ∧ (¬ (sI G 66 8) ≤ 0 → Q G))) :
    EvV K mX12_readTable 2 31 [(0, .ref 66)] [] G Q := by
  refine E_aload_n 0 dX12_readTable_31 rfl rfl rfl ?_
  refine E_gI (v := sI G 66 8) fG_X12_182 rfl (lo_66 hL) rfl dX12_readTable_32 ?_
  refine E_if_le (tgt := 39) dX12_readTable_35 (by decide) (fun c => ?_) (fun c => ?_)
  · have hB := hB.1 c
    refine E_aload_n 0 dX12_readTable_39 rfl rfl rfl ?_
    refine E_dup dX12_readTable_40 rfl ?_
    refine E_gI (v := sI G 66 7) fG_X12_179 rfl (lo_66 hL) rfl dX12_readTable_41 ?_
    refine E_iconst (v := 1) dX12_readTable_44 (by decide) ?_
    refine E_iadd dX12_readTable_45 ?_
    refine E_pI fP_X12_179 rfl (lo_66 hL) dX12_readTable_46 ?_
    refine E_aload_n 0 dX12_readTable_49 rfl rfl rfl ?_
    refine E_cV (ci := 11) (as := []) (st := []) cm_X12_isName cV_X12_207 ⟨_, _, rfl⟩ (by decide) (lo_66 hL) rfl rfl (by decide) (Nat.le_of_ble_eq_true rfl) (Nat.le_of_ble_eq_true rfl) dX12_readTable_50 hB (fun r G1 hr => ?_)
    obtain ⟨r1, rfl, hE1, hB⟩ := hr
    have hL1 : Lay G1.2.2 := by rw [hE1]; exact hL
    have hE1 : G1.2.2 = G.2.2 := hE1
    show Ev K mX12_readTable 2 53 [(0, .ref 66)] [.int r1] G1 _
    refine E_if_ne (tgt := 64) dX12_readTable_53 (by decide) (fun c => ?_) (fun c => ?_)
    · have hB := hB.1 c
      refine E_aload_n 0 dX12_readTable_64 rfl rfl rfl ?_
      refine E_iconst (v := 1) dX12_readTable_65 (by decide) ?_
      refine E_cV (ci := 11) (as := [.int 1]) (st := []) cm_X12_findTable cV_X12_211 ⟨_, _, rfl⟩ (by decide) (lo_66 hL1) rfl rfl (by decide) (Nat.le_of_ble_eq_true rfl) (Nat.le_of_ble_eq_true rfl) dX12_readTable_66 hB (fun r G2 hr => ?_)
      obtain ⟨r2, rfl, hE2, hB⟩ := hr
      have hL2 : Lay G2.2.2 := by rw [hE2]; exact hL1
      have hE2 : G2.2.2 = G.2.2 := hE2.trans hE1
      show Ev K mX12_readTable 2 69 [(0, .ref 66)] [.int r2] G2 _
      refine E_if_lt (tgt := 77) dX12_readTable_69 (by decide) (fun c => ?_) (fun c => ?_)
      · have hB := hB.1 c
        exact EvV.tr hB hE2
      · have hB := hB.2 c
        refine E_aload_n 0 dX12_readTable_72 rfl rfl rfl ?_
        refine E_iconst (v := 3) dX12_readTable_73 (by decide) ?_
        refine E_cV (ci := 11) (as := [.int 3]) (st := []) cm_X12_wrong cV_X12_188 ⟨_, _, rfl⟩ (by decide) (lo_66 hL2) rfl rfl (by decide) (Nat.le_of_ble_eq_true rfl) (Nat.le_of_ble_eq_true rfl) dX12_readTable_74 hB (fun r G3 hr => ?_)
        obtain ⟨rfl, hE3, hB⟩ := hr
        have hL3 : Lay G3.2.2 := by rw [hE3]; exact hL2
        have hE3 : G3.2.2 = G.2.2 := hE3.trans hE2
        show Ev K mX12_readTable 2 77 [(0, .ref 66)] [] G3 _
        exact EvV.tr hB hE3
    · have hB := hB.2 c
      refine E_aload_n 0 dX12_readTable_56 rfl rfl rfl ?_
      refine E_iconst (v := 1) dX12_readTable_57 (by decide) ?_
      refine E_cV (ci := 11) (as := [.int 1]) (st := []) cm_X12_wrong cV_X12_188 ⟨_, _, rfl⟩ (by decide) (lo_66 hL1) rfl rfl (by decide) (Nat.le_of_ble_eq_true rfl) (Nat.le_of_ble_eq_true rfl) dX12_readTable_58 hB (fun r G4 hr => ?_)
      obtain ⟨rfl, hE4, hB⟩ := hr
      have hL4 : Lay G4.2.2 := by rw [hE4]; exact hL1
      have hE4 : G4.2.2 = G.2.2 := hE4.trans hE1
      show Ev K mX12_readTable 2 61 [(0, .ref 66)] [] G4 _
      refine E_goto (tgt := 77) dX12_readTable_61 (by decide) ?_
      exact EvV.tr hB hE4
  · have hB := hB.2 c
    exact E_vret rfl dX12_readTable_38 ⟨rfl, rfl, hB⟩

set_option maxRecDepth 20000 in
set_option maxHeartbeats 2000000 in
theorem kX12_readTable_77 {K : KT} {G : St} {Q : St → Prop}  (hL : Lay G.2.2) 
    (hB : (((sI G 66 8) ≤ 0 → vp_in (sI G 66 7) 1002 ∧ vp_in (5 + (sI G 72 1)) 10 ∧ vp_in (5 + (sI G 72 1)) 10 ∧ EvV K mX12_readColumn 1 0 [(0, .ref 66), (1, .int (5 + (sI G 72 1)))] [] (uI (uI (uI (uL G 73 (Int32.toNatClampNeg (5 + (sI G 72 1))) (sL G 70 (Int32.toNatClampNeg (sI G 66 7)))) 74 (Int32.toNatClampNeg (5 + (sI G 72 1))) 0) 72 1 ((sI G 72 1) + 1)) 66 7 ((sI G 66 7) + 1)) (fun G4 => EvV K mX12_readTable 2 141 [(0, .ref 66), (1, .int (5 + (sI G 72 1)))] [] G4 Q)) ∧ (¬ (sI G 66 8) ≤ 0 → Q G))) :
    EvV K mX12_readTable 2 77 [(0, .ref 66)] [] G Q := by
  refine E_aload_n 0 dX12_readTable_77 rfl rfl rfl ?_
  refine E_gI (v := sI G 66 8) fG_X12_182 rfl (lo_66 hL) rfl dX12_readTable_78 ?_
  refine E_if_le (tgt := 85) dX12_readTable_81 (by decide) (fun c => ?_) (fun c => ?_)
  · have hB := hB.1 c
    refine E_iconst (v := 5) dX12_readTable_85 (by decide) ?_
    refine E_aload_n 0 dX12_readTable_86 rfl rfl rfl ?_
    refine E_gR (j := 72) fG_X12_53 rfl (lo_66 hL) (lr_66_10 hL) (by decide) dX12_readTable_87 ?_
    refine E_iconst (v := 1) dX12_readTable_90 (by decide) ?_
    refine E_aI (p := 1) (v := sI G 72 1) (la_72 hL) (by unfold vp_in; decide) (by decide) rfl dX12_readTable_91 ?_
    refine E_iadd dX12_readTable_92 ?_
    refine E_istore_n (lv' := [(0, .ref 66), (1, .int (5 + (sI G 72 1)))]) dX12_readTable_93 rfl (by decide) rfl ?_
    refine E_aload_n 0 dX12_readTable_94 rfl rfl rfl ?_
    refine E_gR (j := 73) fG_X12_56 rfl (lo_66 hL) (lr_66_11 hL) (by decide) dX12_readTable_95 ?_
    refine E_iload_n 1 dX12_readTable_98 rfl rfl ?_
    refine E_aload_n 0 dX12_readTable_99 rfl rfl rfl ?_
    refine E_gR (j := 70) fG_X12_30 rfl (lo_66 hL) (lr_66_6 hL) (by decide) dX12_readTable_100 ?_
    refine E_aload_n 0 dX12_readTable_103 rfl rfl rfl ?_
    refine E_gI (v := sI G 66 7) fG_X12_179 rfl (lo_66 hL) rfl dX12_readTable_104 ?_
    obtain ⟨qq1, hB⟩ := hB
    refine E_aL (p := Int32.toNatClampNeg (sI G 66 7)) (v := sL G 70 (Int32.toNatClampNeg (sI G 66 7))) (la_70 hL) qq1 rfl rfl dX12_readTable_107 ?_
    obtain ⟨qq2, hB⟩ := hB
    refine E_sL (p := Int32.toNatClampNeg (5 + (sI G 72 1))) (la_73 hL) qq2 rfl dX12_readTable_108 ?_
    refine E_aload_n 0 dX12_readTable_109 rfl rfl rfl ?_
    refine E_gR (j := 74) fG_X12_59 rfl (lo_66 hL) (lr_66_12 hL) (by decide) dX12_readTable_110 ?_
    refine E_iload_n 1 dX12_readTable_113 rfl rfl ?_
    refine E_iconst (v := 0) dX12_readTable_114 (by decide) ?_
    obtain ⟨qq3, hB⟩ := hB
    refine E_sI (p := Int32.toNatClampNeg (5 + (sI G 72 1))) (la_74 hL) qq3 rfl dX12_readTable_115 ?_
    refine E_aload_n 0 dX12_readTable_116 rfl rfl rfl ?_
    refine E_gR (j := 72) fG_X12_53 rfl (lo_66 hL) (lr_66_10 hL) (by decide) dX12_readTable_117 ?_
    refine E_iconst (v := 1) dX12_readTable_120 (by decide) ?_
    refine E_dup2 dX12_readTable_121 rfl rfl ?_
    refine E_aI (p := 1) (v := sI G 72 1) (la_72 hL) (by unfold vp_in; decide) (by decide) rfl dX12_readTable_122 ?_
    refine E_iconst (v := 1) dX12_readTable_123 (by decide) ?_
    refine E_iadd dX12_readTable_124 ?_
    refine E_sI (p := 1) (la_72 hL) (by unfold vp_in; decide) (by decide) dX12_readTable_125 ?_
    refine E_aload_n 0 dX12_readTable_126 rfl rfl rfl ?_
    refine E_dup dX12_readTable_127 rfl ?_
    refine E_gI (v := sI G 66 7) fG_X12_179 rfl (lo_66 hL) rfl dX12_readTable_128 ?_
    refine E_iconst (v := 1) dX12_readTable_131 (by decide) ?_
    refine E_iadd dX12_readTable_132 ?_
    refine E_pI fP_X12_179 rfl (lo_66 hL) dX12_readTable_133 ?_
    refine E_aload_n 0 dX12_readTable_136 rfl rfl rfl ?_
    refine E_iload_n 1 dX12_readTable_137 rfl rfl ?_
    refine E_cV (ci := 11) (as := [.int (5 + (sI G 72 1))]) (st := []) cm_X12_readColumn cV_X12_214 ⟨_, _, rfl⟩ (by decide) (lo_66 hL) rfl rfl (by decide) (Nat.le_of_ble_eq_true rfl) (Nat.le_of_ble_eq_true rfl) dX12_readTable_138 hB (fun r G4 hr => ?_)
    obtain ⟨rfl, hE4, hB⟩ := hr
    have hL4 : Lay G4.2.2 := by rw [hE4]; exact hL
    have hE4 : G4.2.2 = G.2.2 := hE4
    show Ev K mX12_readTable 2 141 [(0, .ref 66), (1, .int (5 + (sI G 72 1)))] [] G4 _
    exact EvV.tr hB hE4
  · have hB := hB.2 c
    exact E_vret rfl dX12_readTable_84 ⟨rfl, rfl, hB⟩

set_option maxRecDepth 20000 in
set_option maxHeartbeats 2000000 in
theorem kX12_readTable_141 {K : KT} {G : St} {Q : St → Prop} {x1 : Int32} (hL : Lay G.2.2) 
    (hB : EvI K mX12_hasSign 1 0 [(0, .ref 66), (1, .int 44)] [] G (fun r1 G1 => ((r1 = 0 → EvV K mX12_takeSign 1 0 [(0, .ref 66), (1, .int 59)] [] G1 (fun G2 => Q G2)) ∧ (¬ r1 = 0 → EvV K mX12_readColumn 1 0 [(0, .ref 66), (1, .int x1)] [] G1 (fun G3 => EvV K mX12_readTable 2 141 [(0, .ref 66), (1, .int x1)] [] G3 Q))))) :
    EvV K mX12_readTable 2 141 [(0, .ref 66), (1, .int x1)] [] G Q := by
  refine E_aload_n 0 dX12_readTable_141 rfl rfl rfl ?_
  refine E_bipush (v := 44) dX12_readTable_142 (by decide) ?_
  refine E_cV (ci := 11) (as := [.int 44]) (st := []) cm_X12_hasSign cV_X12_217 ⟨_, _, rfl⟩ (by decide) (lo_66 hL) rfl rfl (by decide) (Nat.le_of_ble_eq_true rfl) (Nat.le_of_ble_eq_true rfl) dX12_readTable_144 hB (fun r G1 hr => ?_)
  obtain ⟨r1, rfl, hE1, hB⟩ := hr
  have hL1 : Lay G1.2.2 := by rw [hE1]; exact hL
  have hE1 : G1.2.2 = G.2.2 := hE1
  show Ev K mX12_readTable 2 147 [(0, .ref 66), (1, .int x1)] [.int r1] G1 _
  refine E_if_eq (tgt := 158) dX12_readTable_147 (by decide) (fun c => ?_) (fun c => ?_)
  · have hB := hB.1 c
    refine E_aload_n 0 dX12_readTable_158 rfl rfl rfl ?_
    refine E_bipush (v := 59) dX12_readTable_159 (by decide) ?_
    refine E_cV (ci := 11) (as := [.int 59]) (st := []) cm_X12_takeSign cV_X12_220 ⟨_, _, rfl⟩ (by decide) (lo_66 hL1) rfl rfl (by decide) (Nat.le_of_ble_eq_true rfl) (Nat.le_of_ble_eq_true rfl) dX12_readTable_161 hB (fun r G2 hr => ?_)
    obtain ⟨rfl, hE2, hB⟩ := hr
    have hL2 : Lay G2.2.2 := by rw [hE2]; exact hL1
    have hE2 : G2.2.2 = G.2.2 := hE2.trans hE1
    show Ev K mX12_readTable 2 164 [(0, .ref 66), (1, .int x1)] [] G2 _
    exact E_vret rfl dX12_readTable_164 ⟨rfl, hE2, hB⟩
  · have hB := hB.2 c
    refine E_aload_n 0 dX12_readTable_150 rfl rfl rfl ?_
    refine E_iload_n 1 dX12_readTable_151 rfl rfl ?_
    refine E_cV (ci := 11) (as := [.int x1]) (st := []) cm_X12_readColumn cV_X12_214 ⟨_, _, rfl⟩ (by decide) (lo_66 hL1) rfl rfl (by decide) (Nat.le_of_ble_eq_true rfl) (Nat.le_of_ble_eq_true rfl) dX12_readTable_152 hB (fun r G3 hr => ?_)
    obtain ⟨rfl, hE3, hB⟩ := hr
    have hL3 : Lay G3.2.2 := by rw [hE3]; exact hL1
    have hE3 : G3.2.2 = G.2.2 := hE3.trans hE1
    show Ev K mX12_readTable 2 155 [(0, .ref 66), (1, .int x1)] [] G3 _
    refine E_goto (tgt := 141) dX12_readTable_155 (by decide) ?_
    exact EvV.tr hB hE3

set_option maxRecDepth 20000 in
set_option maxHeartbeats 2000000 in
theorem kX12_takesTables_0 {K : KT} {G : St} {Q : St → Prop}  (hL : Lay G.2.2) 
    (hB : EvV K mX12_takesTables 0 14 [(0, .ref 66), (1, .int 0)] [] (uI G 72 0 (sI G 72 1)) Q) :
    EvV K mX12_takesTables 0 0 [(0, .ref 66)] [] G Q := by
  refine E_aload_n 0 dX12_takesTables_0 rfl rfl rfl ?_
  refine E_gR (j := 72) fG_X12_53 rfl (lo_66 hL) (lr_66_10 hL) (by decide) dX12_takesTables_1 ?_
  refine E_iconst (v := 0) dX12_takesTables_4 (by decide) ?_
  refine E_aload_n 0 dX12_takesTables_5 rfl rfl rfl ?_
  refine E_gR (j := 72) fG_X12_53 rfl (lo_66 hL) (lr_66_10 hL) (by decide) dX12_takesTables_6 ?_
  refine E_iconst (v := 1) dX12_takesTables_9 (by decide) ?_
  refine E_aI (p := 1) (v := sI G 72 1) (la_72 hL) (by unfold vp_in; decide) (by decide) rfl dX12_takesTables_10 ?_
  refine E_sI (p := 0) (la_72 hL) (by unfold vp_in; decide) (by decide) dX12_takesTables_11 ?_
  refine E_iconst (v := 0) dX12_takesTables_12 (by decide) ?_
  refine E_istore_n (lv' := [(0, .ref 66), (1, .int 0)]) dX12_takesTables_13 rfl (by decide) rfl ?_
  exact EvV.tr hB rfl

set_option maxRecDepth 20000 in
set_option maxHeartbeats 2000000 in
theorem kX12_takesTables_14 {K : KT} {G : St} {Q : St → Prop} {x1 : Int32} (hL : Lay G.2.2) 
    (hB : ((5 ≤ x1 → EvV K mX12_takesTables 0 55 [(0, .ref 66), (1, .int 0)] [] G Q) ∧ (¬ 5 ≤ x1 → vp_in (5 + x1) 10 ∧ vp_in x1 10 ∧ vp_in (5 + x1) 10 ∧ vp_in x1 10 ∧ EvV K mX12_takesTables 0 14 [(0, .ref 66), (1, .int (x1 + 1))] [] (uI (uL G 73 (Int32.toNatClampNeg x1) (sL G 73 (Int32.toNatClampNeg (5 + x1)))) 74 (Int32.toNatClampNeg x1) (sI G 74 (Int32.toNatClampNeg (5 + x1)))) Q))) :
    EvV K mX12_takesTables 0 14 [(0, .ref 66), (1, .int x1)] [] G Q := by
  refine E_iload_n 1 dX12_takesTables_14 rfl rfl ?_
  refine E_iconst (v := 5) dX12_takesTables_15 (by decide) ?_
  refine E_icmp_ge (tgt := 53) dX12_takesTables_16 (by decide) (fun c => ?_) (fun c => ?_)
  · have hB := hB.1 c
    refine E_iconst (v := 0) dX12_takesTables_53 (by decide) ?_
    refine E_istore_n (lv' := [(0, .ref 66), (1, .int 0)]) dX12_takesTables_54 rfl (by decide) rfl ?_
    exact EvV.tr hB rfl
  · have hB := hB.2 c
    refine E_aload_n 0 dX12_takesTables_19 rfl rfl rfl ?_
    refine E_gR (j := 73) fG_X12_56 rfl (lo_66 hL) (lr_66_11 hL) (by decide) dX12_takesTables_20 ?_
    refine E_iload_n 1 dX12_takesTables_23 rfl rfl ?_
    refine E_aload_n 0 dX12_takesTables_24 rfl rfl rfl ?_
    refine E_gR (j := 73) fG_X12_56 rfl (lo_66 hL) (lr_66_11 hL) (by decide) dX12_takesTables_25 ?_
    refine E_iconst (v := 5) dX12_takesTables_28 (by decide) ?_
    refine E_iload_n 1 dX12_takesTables_29 rfl rfl ?_
    refine E_iadd dX12_takesTables_30 ?_
    obtain ⟨qq1, hB⟩ := hB
    refine E_aL (p := Int32.toNatClampNeg (5 + x1)) (v := sL G 73 (Int32.toNatClampNeg (5 + x1))) (la_73 hL) qq1 rfl rfl dX12_takesTables_31 ?_
    obtain ⟨qq2, hB⟩ := hB
    refine E_sL (p := Int32.toNatClampNeg x1) (la_73 hL) qq2 rfl dX12_takesTables_32 ?_
    refine E_aload_n 0 dX12_takesTables_33 rfl rfl rfl ?_
    refine E_gR (j := 74) fG_X12_59 rfl (lo_66 hL) (lr_66_12 hL) (by decide) dX12_takesTables_34 ?_
    refine E_iload_n 1 dX12_takesTables_37 rfl rfl ?_
    refine E_aload_n 0 dX12_takesTables_38 rfl rfl rfl ?_
    refine E_gR (j := 74) fG_X12_59 rfl (lo_66 hL) (lr_66_12 hL) (by decide) dX12_takesTables_39 ?_
    refine E_iconst (v := 5) dX12_takesTables_42 (by decide) ?_
    refine E_iload_n 1 dX12_takesTables_43 rfl rfl ?_
    refine E_iadd dX12_takesTables_44 ?_
    obtain ⟨qq3, hB⟩ := hB
    refine E_aI (p := Int32.toNatClampNeg (5 + x1)) (v := sI G 74 (Int32.toNatClampNeg (5 + x1))) (la_74 hL) qq3 rfl rfl dX12_takesTables_45 ?_
    obtain ⟨qq4, hB⟩ := hB
    refine E_sI (p := Int32.toNatClampNeg x1) (la_74 hL) qq4 rfl dX12_takesTables_46 ?_
    refine E_iinc (v := x1 + 1) (lv' := [(0, .ref 66), (1, .int (x1 + 1))]) 1 dX12_takesTables_47 rfl rfl (by decide) rfl ?_
    refine E_goto (tgt := 14) dX12_takesTables_50 (by decide) ?_
    exact EvV.tr hB rfl

set_option maxRecDepth 20000 in
set_option maxHeartbeats 2000000 in
theorem kX12_takesTables_55 {K : KT} {G : St} {Q : St → Prop} {x1 : Int32} (hL : Lay G.2.2) 
    (hB : ((20 ≤ x1 → EvV K mX12_takesTables 0 119 [(0, .ref 66), (1, .int 0)] [] (uI (uI (uI (uI G 66 16 0) 66 20 0) 66 29 0) 66 54 0) Q) ∧ (¬ 20 ≤ x1 → vp_in (20 + x1) 40 ∧ vp_in x1 40 ∧ vp_in (20 + x1) 40 ∧ vp_in x1 40 ∧ EvV K mX12_takesTables 0 55 [(0, .ref 66), (1, .int (x1 + 1))] [] (uI (uL G 75 (Int32.toNatClampNeg x1) (sL G 75 (Int32.toNatClampNeg (20 + x1)))) 76 (Int32.toNatClampNeg x1) (sI G 76 (Int32.toNatClampNeg (20 + x1)))) Q))) :
    EvV K mX12_takesTables 0 55 [(0, .ref 66), (1, .int x1)] [] G Q := by
  refine E_iload_n 1 dX12_takesTables_55 rfl rfl ?_
  refine E_bipush (v := 20) dX12_takesTables_56 (by decide) ?_
  refine E_icmp_ge (tgt := 97) dX12_takesTables_58 (by decide) (fun c => ?_) (fun c => ?_)
  · have hB := hB.1 c
    refine E_aload_n 0 dX12_takesTables_97 rfl rfl rfl ?_
    refine E_iconst (v := 0) dX12_takesTables_98 (by decide) ?_
    refine E_pI fP_X12_223 rfl (lo_66 hL) dX12_takesTables_99 ?_
    refine E_aload_n 0 dX12_takesTables_102 rfl rfl rfl ?_
    refine E_iconst (v := 0) dX12_takesTables_103 (by decide) ?_
    refine E_pI fP_X12_226 rfl (lo_66 hL) dX12_takesTables_104 ?_
    refine E_aload_n 0 dX12_takesTables_107 rfl rfl rfl ?_
    refine E_iconst (v := 0) dX12_takesTables_108 (by decide) ?_
    refine E_pI fP_X12_229 rfl (lo_66 hL) dX12_takesTables_109 ?_
    refine E_aload_n 0 dX12_takesTables_112 rfl rfl rfl ?_
    refine E_iconst (v := 0) dX12_takesTables_113 (by decide) ?_
    refine E_pI fP_X12_232 rfl (lo_66 hL) dX12_takesTables_114 ?_
    refine E_iconst (v := 0) dX12_takesTables_117 (by decide) ?_
    refine E_istore_n (lv' := [(0, .ref 66), (1, .int 0)]) dX12_takesTables_118 rfl (by decide) rfl ?_
    exact EvV.tr hB rfl
  · have hB := hB.2 c
    refine E_aload_n 0 dX12_takesTables_61 rfl rfl rfl ?_
    refine E_gR (j := 75) fG_X12_62 rfl (lo_66 hL) (lr_66_13 hL) (by decide) dX12_takesTables_62 ?_
    refine E_iload_n 1 dX12_takesTables_65 rfl rfl ?_
    refine E_aload_n 0 dX12_takesTables_66 rfl rfl rfl ?_
    refine E_gR (j := 75) fG_X12_62 rfl (lo_66 hL) (lr_66_13 hL) (by decide) dX12_takesTables_67 ?_
    refine E_bipush (v := 20) dX12_takesTables_70 (by decide) ?_
    refine E_iload_n 1 dX12_takesTables_72 rfl rfl ?_
    refine E_iadd dX12_takesTables_73 ?_
    obtain ⟨qq1, hB⟩ := hB
    refine E_aL (p := Int32.toNatClampNeg (20 + x1)) (v := sL G 75 (Int32.toNatClampNeg (20 + x1))) (la_75 hL) qq1 rfl rfl dX12_takesTables_74 ?_
    obtain ⟨qq2, hB⟩ := hB
    refine E_sL (p := Int32.toNatClampNeg x1) (la_75 hL) qq2 rfl dX12_takesTables_75 ?_
    refine E_aload_n 0 dX12_takesTables_76 rfl rfl rfl ?_
    refine E_gR (j := 76) fG_X12_65 rfl (lo_66 hL) (lr_66_14 hL) (by decide) dX12_takesTables_77 ?_
    refine E_iload_n 1 dX12_takesTables_80 rfl rfl ?_
    refine E_aload_n 0 dX12_takesTables_81 rfl rfl rfl ?_
    refine E_gR (j := 76) fG_X12_65 rfl (lo_66 hL) (lr_66_14 hL) (by decide) dX12_takesTables_82 ?_
    refine E_bipush (v := 20) dX12_takesTables_85 (by decide) ?_
    refine E_iload_n 1 dX12_takesTables_87 rfl rfl ?_
    refine E_iadd dX12_takesTables_88 ?_
    obtain ⟨qq3, hB⟩ := hB
    refine E_aI (p := Int32.toNatClampNeg (20 + x1)) (v := sI G 76 (Int32.toNatClampNeg (20 + x1))) (la_76 hL) qq3 rfl rfl dX12_takesTables_89 ?_
    obtain ⟨qq4, hB⟩ := hB
    refine E_sI (p := Int32.toNatClampNeg x1) (la_76 hL) qq4 rfl dX12_takesTables_90 ?_
    refine E_iinc (v := x1 + 1) (lv' := [(0, .ref 66), (1, .int (x1 + 1))]) 1 dX12_takesTables_91 rfl rfl (by decide) rfl ?_
    refine E_goto (tgt := 55) dX12_takesTables_94 (by decide) ?_
    exact EvV.tr hB rfl

set_option maxRecDepth 20000 in
set_option maxHeartbeats 2000000 in
theorem kX12_takesTables_119 {K : KT} {G : St} {Q : St → Prop} {x1 : Int32} (hL : Lay G.2.2) 
    (hB : ((120 ≤ x1 → EvV K mX12_takesTables 0 140 [(0, .ref 66), (1, .int 0)] [] G Q) ∧ (¬ 120 ≤ x1 → vp_in x1 120 ∧ EvV K mX12_takesTables 0 119 [(0, .ref 66), (1, .int (x1 + 1))] [] (uI G 83 (Int32.toNatClampNeg x1) 0) Q))) :
    EvV K mX12_takesTables 0 119 [(0, .ref 66), (1, .int x1)] [] G Q := by
  refine E_iload_n 1 dX12_takesTables_119 rfl rfl ?_
  refine E_bipush (v := 120) dX12_takesTables_120 (by decide) ?_
  refine E_icmp_ge (tgt := 138) dX12_takesTables_122 (by decide) (fun c => ?_) (fun c => ?_)
  · have hB := hB.1 c
    refine E_iconst (v := 0) dX12_takesTables_138 (by decide) ?_
    refine E_istore_n (lv' := [(0, .ref 66), (1, .int 0)]) dX12_takesTables_139 rfl (by decide) rfl ?_
    exact EvV.tr hB rfl
  · have hB := hB.2 c
    refine E_aload_n 0 dX12_takesTables_125 rfl rfl rfl ?_
    refine E_gR (j := 83) fG_X12_86 rfl (lo_66 hL) (lr_66_28 hL) (by decide) dX12_takesTables_126 ?_
    refine E_iload_n 1 dX12_takesTables_129 rfl rfl ?_
    refine E_iconst (v := 0) dX12_takesTables_130 (by decide) ?_
    obtain ⟨qq1, hB⟩ := hB
    refine E_sZ (p := Int32.toNatClampNeg x1) (la_83 hL) qq1 (Or.inl rfl) rfl dX12_takesTables_131 ?_
    refine E_iinc (v := x1 + 1) (lv' := [(0, .ref 66), (1, .int (x1 + 1))]) 1 dX12_takesTables_132 rfl rfl (by decide) rfl ?_
    refine E_goto (tgt := 119) dX12_takesTables_135 (by decide) ?_
    exact EvV.tr hB rfl

set_option maxRecDepth 20000 in
set_option maxHeartbeats 2000000 in
theorem kX12_takesTables_140 {K : KT} {G : St} {Q : St → Prop} {x1 : Int32} (hL : Lay G.2.2) 
    (hB : ((7776 ≤ x1 → Q (uI G 66 15 1)) ∧ (¬ 7776 ≤ x1 → vp_in x1 7776 ∧ EvV K mX12_takesTables 0 140 [(0, .ref 66), (1, .int (x1 + 1))] [] (uI G 99 (Int32.toNatClampNeg x1) 0) Q))) :
    EvV K mX12_takesTables 0 140 [(0, .ref 66), (1, .int x1)] [] G Q := by
  refine E_iload_n 1 dX12_takesTables_140 rfl rfl ?_
  refine E_sipush (v := 7776) dX12_takesTables_141 (by decide) ?_
  refine E_icmp_ge (tgt := 160) dX12_takesTables_144 (by decide) (fun c => ?_) (fun c => ?_)
  · have hB := hB.1 c
    refine E_aload_n 0 dX12_takesTables_160 rfl rfl rfl ?_
    refine E_iconst (v := 1) dX12_takesTables_161 (by decide) ?_
    refine E_pZ fP_X12_152 rfl (lo_66 hL) (Or.inr rfl) dX12_takesTables_162 ?_
    exact E_vret rfl dX12_takesTables_165 ⟨rfl, rfl, hB⟩
  · have hB := hB.2 c
    refine E_aload_n 0 dX12_takesTables_147 rfl rfl rfl ?_
    refine E_gR (j := 99) fG_X12_137 rfl (lo_66 hL) (lr_66_49 hL) (by decide) dX12_takesTables_148 ?_
    refine E_iload_n 1 dX12_takesTables_151 rfl rfl ?_
    refine E_iconst (v := 0) dX12_takesTables_152 (by decide) ?_
    obtain ⟨qq1, hB⟩ := hB
    refine E_sI (p := Int32.toNatClampNeg x1) (la_99 hL) qq1 rfl dX12_takesTables_153 ?_
    refine E_iinc (v := x1 + 1) (lv' := [(0, .ref 66), (1, .int (x1 + 1))]) 1 dX12_takesTables_154 rfl rfl (by decide) rfl ?_
    refine E_goto (tgt := 140) dX12_takesTables_157 (by decide) ?_
    exact EvV.tr hB rfl

set_option maxRecDepth 20000 in
set_option maxHeartbeats 2000000 in
theorem kX12_tables_0 {K : KT} {G : St} {Q : Int32 → St → Prop}  (hL : Lay G.2.2) 
    (hB : EvV K mX12_cutAll 1 0 [(0, .ref 66)] [] (uI G 66 0 0) (fun G1 => EvI K mX12_tables 3 16 [(0, .ref 66)] [] (uI G1 72 1 0) Q)) :
    EvI K mX12_tables 3 0 [(0, .ref 66)] [] G Q := by
  refine E_aload_n 0 dX12_tables_0 rfl rfl rfl ?_
  refine E_iconst (v := 0) dX12_tables_1 (by decide) ?_
  refine E_pI fP_X12_1 rfl (lo_66 hL) dX12_tables_2 ?_
  refine E_aload_n 0 dX12_tables_5 rfl rfl rfl ?_
  refine E_cV (ci := 11) (as := []) (st := []) cm_X12_cutAll cV_X12_198 ⟨_, _, rfl⟩ (by decide) (lo_66 hL) rfl rfl (by decide) (Nat.le_of_ble_eq_true rfl) (Nat.le_of_ble_eq_true rfl) dX12_tables_6 hB (fun r G1 hr => ?_)
  obtain ⟨rfl, hE1, hB⟩ := hr
  have hL1 : Lay G1.2.2 := by rw [hE1]; exact hL
  have hE1 : G1.2.2 = G.2.2 := hE1
  show Ev K mX12_tables 3 9 [(0, .ref 66)] [] G1 _
  refine E_aload_n 0 dX12_tables_9 rfl rfl rfl ?_
  refine E_gR (j := 72) fG_X12_53 rfl (lo_66 hL1) (lr_66_10 hL1) (by decide) dX12_tables_10 ?_
  refine E_iconst (v := 1) dX12_tables_13 (by decide) ?_
  refine E_iconst (v := 0) dX12_tables_14 (by decide) ?_
  refine E_sI (p := 1) (la_72 hL1) (by unfold vp_in; decide) (by decide) dX12_tables_15 ?_
  exact EvI.tr hB hE1

set_option maxRecDepth 20000 in
set_option maxHeartbeats 2000000 in
theorem kX12_tables_16 {K : KT} {G : St} {Q : Int32 → St → Prop}  (hL : Lay G.2.2) 
    (hB : ((¬ (sI G 66 8) = 0 → EvI K mX12_tables 3 42 [(0, .ref 66)] [] G Q) ∧ ((sI G 66 8) = 0 → vp_in (sI G 66 7) 1002 ∧ (((sI G 68 (Int32.toNatClampNeg (sI G 66 7))) = 0 → EvI K mX12_tables 3 42 [(0, .ref 66)] [] G Q) ∧ (¬ (sI G 68 (Int32.toNatClampNeg (sI G 66 7))) = 0 → EvV K mX12_readTable 2 0 [(0, .ref 66)] [] G (fun G2 => EvI K mX12_tables 3 16 [(0, .ref 66)] [] G2 Q)))))) :
    EvI K mX12_tables 3 16 [(0, .ref 66)] [] G Q := by
  refine E_aload_n 0 dX12_tables_16 rfl rfl rfl ?_
  refine E_gI (v := sI G 66 8) fG_X12_182 rfl (lo_66 hL) rfl dX12_tables_17 ?_
  refine E_if_ne (tgt := 42) dX12_tables_20 (by decide) (fun c => ?_) (fun c => ?_)
  · have hB := hB.1 c
    exact EvI.tr hB rfl
  · have hB := hB.2 c
    refine E_aload_n 0 dX12_tables_23 rfl rfl rfl ?_
    refine E_gR (j := 68) fG_X12_24 rfl (lo_66 hL) (lr_66_4 hL) (by decide) dX12_tables_24 ?_
    refine E_aload_n 0 dX12_tables_27 rfl rfl rfl ?_
    refine E_gI (v := sI G 66 7) fG_X12_179 rfl (lo_66 hL) rfl dX12_tables_28 ?_
    obtain ⟨qq1, hB⟩ := hB
    refine E_aI (p := Int32.toNatClampNeg (sI G 66 7)) (v := sI G 68 (Int32.toNatClampNeg (sI G 66 7))) (la_68 hL) qq1 rfl rfl dX12_tables_31 ?_
    refine E_if_eq (tgt := 42) dX12_tables_32 (by decide) (fun c => ?_) (fun c => ?_)
    · have hB := hB.1 c
      exact EvI.tr hB rfl
    · have hB := hB.2 c
      refine E_aload_n 0 dX12_tables_35 rfl rfl rfl ?_
      refine E_cV (ci := 11) (as := []) (st := []) cm_X12_readTable cV_X12_201 ⟨_, _, rfl⟩ (by decide) (lo_66 hL) rfl rfl (by decide) (Nat.le_of_ble_eq_true rfl) (Nat.le_of_ble_eq_true rfl) dX12_tables_36 hB (fun r G2 hr => ?_)
      obtain ⟨rfl, hE2, hB⟩ := hr
      have hL2 : Lay G2.2.2 := by rw [hE2]; exact hL
      have hE2 : G2.2.2 = G.2.2 := hE2
      show Ev K mX12_tables 3 39 [(0, .ref 66)] [] G2 _
      refine E_goto (tgt := 16) dX12_tables_39 (by decide) ?_
      exact EvI.tr hB hE2

set_option maxRecDepth 20000 in
set_option maxHeartbeats 2000000 in
theorem kX12_tables_42 {K : KT} {G : St} {Q : Int32 → St → Prop}  (hL : Lay G.2.2) 
    (hB : ((¬ (sI G 66 8) = 0 → Q (sI G 66 8) G) ∧ ((sI G 66 8) = 0 → EvV K mX12_takesTables 0 0 [(0, .ref 66)] [] G (fun G1 => Q (sI G1 66 8) G1)))) :
    EvI K mX12_tables 3 42 [(0, .ref 66)] [] G Q := by
  refine E_aload_n 0 dX12_tables_42 rfl rfl rfl ?_
  refine E_gI (v := sI G 66 8) fG_X12_182 rfl (lo_66 hL) rfl dX12_tables_43 ?_
  refine E_if_ne (tgt := 53) dX12_tables_46 (by decide) (fun c => ?_) (fun c => ?_)
  · have hB := hB.1 c
    refine E_aload_n 0 dX12_tables_53 rfl rfl rfl ?_
    refine E_gI (v := sI G 66 8) fG_X12_182 rfl (lo_66 hL) rfl dX12_tables_54 ?_
    exact E_iret rfl dX12_tables_57 ⟨_, rfl, rfl, hB⟩
  · have hB := hB.2 c
    refine E_aload_n 0 dX12_tables_49 rfl rfl rfl ?_
    refine E_cV (ci := 11) (as := []) (st := []) cm_X12_takesTables cV_X12_204 ⟨_, _, rfl⟩ (by decide) (lo_66 hL) rfl rfl (by decide) (Nat.le_of_ble_eq_true rfl) (Nat.le_of_ble_eq_true rfl) dX12_tables_50 hB (fun r G1 hr => ?_)
    obtain ⟨rfl, hE1, hB⟩ := hr
    have hL1 : Lay G1.2.2 := by rw [hE1]; exact hL
    have hE1 : G1.2.2 = G.2.2 := hE1
    show Ev K mX12_tables 3 53 [(0, .ref 66)] [] G1 _
    refine E_aload_n 0 dX12_tables_53 rfl rfl rfl ?_
    refine E_gI (v := sI G1 66 8) fG_X12_182 rfl (lo_66 hL1) rfl dX12_tables_54 ?_
    exact E_iret rfl dX12_tables_57 ⟨_, rfl, hE1, hB⟩

set_option maxRecDepth 20000 in
set_option maxHeartbeats 2000000 in
theorem kX12_rowsOf_0 {K : KT} {G : St} {Q : Int32 → St → Prop} {x1 : Int32} (hL : Lay G.2.2) 
    (hB : EvI K mX12_rowsOf 0 4 [(0, .ref 66), (1, .int x1), (2, .int 0), (3, .int 0)] [] G Q) :
    EvI K mX12_rowsOf 0 0 [(0, .ref 66), (1, .int x1)] [] G Q := by
  refine E_iconst (v := 0) dX12_rowsOf_0 (by decide) ?_
  refine E_istore_n (lv' := [(0, .ref 66), (1, .int x1), (2, .int 0)]) dX12_rowsOf_1 rfl (by decide) rfl ?_
  refine E_iconst (v := 0) dX12_rowsOf_2 (by decide) ?_
  refine E_istore_n (lv' := [(0, .ref 66), (1, .int x1), (2, .int 0), (3, .int 0)]) dX12_rowsOf_3 rfl (by decide) rfl ?_
  exact EvI.tr hB rfl

set_option maxRecDepth 20000 in
set_option maxHeartbeats 2000000 in
theorem kX12_rowsOf_4 {K : KT} {G : St} {Q : Int32 → St → Prop} {x1 : Int32} {x2 : Int32} {x3 : Int32} (hL : Lay G.2.2) 
    (hB : (((sI G 66 17) ≤ x3 → Q x2 G) ∧ (¬ (sI G 66 17) ≤ x3 → vp_in x3 31 ∧ ((¬ (sI G 77 (Int32.toNatClampNeg x3)) = x1 → EvI K mX12_rowsOf 0 28 [(0, .ref 66), (1, .int x1), (3, .int x3)] [.int 0, .int x2] G Q) ∧ ((sI G 77 (Int32.toNatClampNeg x3)) = x1 → EvI K mX12_rowsOf 0 28 [(0, .ref 66), (1, .int x1), (3, .int x3)] [.int 1, .int x2] G Q))))) :
    EvI K mX12_rowsOf 0 4 [(0, .ref 66), (1, .int x1), (2, .int x2), (3, .int x3)] [] G Q := by
  refine E_iload_n 3 dX12_rowsOf_4 rfl rfl ?_
  refine E_aload_n 0 dX12_rowsOf_5 rfl rfl rfl ?_
  refine E_gI (v := sI G 66 17) fG_X12_235 rfl (lo_66 hL) rfl dX12_rowsOf_6 ?_
  refine E_icmp_ge (tgt := 36) dX12_rowsOf_9 (by decide) (fun c => ?_) (fun c => ?_)
  · have hB := hB.1 c
    refine E_iload_n 2 dX12_rowsOf_36 rfl rfl ?_
    exact E_iret rfl dX12_rowsOf_37 ⟨_, rfl, rfl, hB⟩
  · have hB := hB.2 c
    refine E_iload_n 2 dX12_rowsOf_12 rfl rfl ?_
    refine E_aload_n 0 dX12_rowsOf_13 rfl rfl rfl ?_
    refine E_gR (j := 77) fG_X12_68 rfl (lo_66 hL) (lr_66_18 hL) (by decide) dX12_rowsOf_14 ?_
    refine E_iload_n 3 dX12_rowsOf_17 rfl rfl ?_
    obtain ⟨qq1, hB⟩ := hB
    refine E_aI (p := Int32.toNatClampNeg x3) (v := sI G 77 (Int32.toNatClampNeg x3)) (la_77 hL) qq1 rfl rfl dX12_rowsOf_18 ?_
    refine E_iload_n 1 dX12_rowsOf_19 rfl rfl ?_
    refine E_icmp_ne (tgt := 27) dX12_rowsOf_20 (by decide) (fun c => ?_) (fun c => ?_)
    · have hB := hB.1 c
      refine E_iconst (v := 0) dX12_rowsOf_27 (by decide) ?_
      refine E_sub (lv' := [(0, .ref 66), (1, .int x1), (3, .int x3)]) [0, 1, 3] rfl ?_
      exact EvI.tr hB rfl
    · have hB := hB.2 c
      refine E_iconst (v := 1) dX12_rowsOf_23 (by decide) ?_
      refine E_goto (tgt := 28) dX12_rowsOf_24 (by decide) ?_
      refine E_sub (lv' := [(0, .ref 66), (1, .int x1), (3, .int x3)]) [0, 1, 3] rfl ?_
      exact EvI.tr hB rfl

set_option maxRecDepth 20000 in
set_option maxHeartbeats 2000000 in
theorem kX12_rowsOf_28 {K : KT} {G : St} {Q : Int32 → St → Prop} {x1 : Int32} {x3 : Int32} {xs0 : Int32} {xs1 : Int32} (hL : Lay G.2.2) 
    (hB : EvI K mX12_rowsOf 0 4 [(0, .ref 66), (1, .int x1), (2, .int (xs0 + xs1)), (3, .int (x3 + 1))] [] G Q) :
    EvI K mX12_rowsOf 0 28 [(0, .ref 66), (1, .int x1), (3, .int x3)] [.int xs1, .int xs0] G Q := by
  refine E_iadd dX12_rowsOf_28 ?_
  refine E_istore_n (lv' := [(0, .ref 66), (1, .int x1), (2, .int (xs0 + xs1)), (3, .int x3)]) dX12_rowsOf_29 rfl (by decide) rfl ?_
  refine E_iinc (v := x3 + 1) (lv' := [(0, .ref 66), (1, .int x1), (2, .int (xs0 + xs1)), (3, .int (x3 + 1))]) 3 dX12_rowsOf_30 rfl rfl (by decide) rfl ?_
  refine E_goto (tgt := 4) dX12_rowsOf_33 (by decide) ?_
  exact EvI.tr hB rfl

set_option maxRecDepth 20000 in
set_option maxHeartbeats 2000000 in
theorem kX12_rowAt_0 {K : KT} {G : St} {Q : Int32 → St → Prop} {x1 : Int32} {x2 : Int32} (hL : Lay G.2.2) 
    (hB : EvI K mX12_rowAt 0 5 [(0, .ref 66), (1, .int x1), (3, .int x2), (4, .int 0)] [] G Q) :
    EvI K mX12_rowAt 0 0 [(0, .ref 66), (1, .int x1), (2, .int x2)] [] G Q := by
  refine E_iload_n 2 dX12_rowAt_0 rfl rfl ?_
  refine E_istore_n (lv' := [(0, .ref 66), (1, .int x1), (2, .int x2), (3, .int x2)]) dX12_rowAt_1 rfl (by decide) rfl ?_
  refine E_iconst (v := 0) dX12_rowAt_2 (by decide) ?_
  refine E_istore (lv' := [(0, .ref 66), (1, .int x1), (2, .int x2), (3, .int x2), (4, .int 0)]) dX12_rowAt_3 (by decide) rfl ?_
  refine E_sub (lv' := [(0, .ref 66), (1, .int x1), (3, .int x2), (4, .int 0)]) [0, 1, 3, 4] rfl ?_
  exact EvI.tr hB rfl

set_option maxRecDepth 20000 in
set_option maxHeartbeats 2000000 in
theorem kX12_rowAt_5 {K : KT} {G : St} {Q : Int32 → St → Prop} {x1 : Int32} {x3 : Int32} {x4 : Int32} (hL : Lay G.2.2) 
    (hB : (((sI G 66 17) ≤ x4 → Q (-1) G) ∧ (¬ (sI G 66 17) ≤ x4 → vp_in x4 31 ∧ ((¬ (sI G 77 (Int32.toNatClampNeg x4)) = x1 → EvI K mX12_rowAt 0 35 [(0, .ref 66), (1, .int x1), (3, .int x3), (4, .int x4)] [] G Q) ∧ ((sI G 77 (Int32.toNatClampNeg x4)) = x1 → ((¬ x3 = 0 → EvI K mX12_rowAt 0 35 [(0, .ref 66), (1, .int x1), (3, .int (x3 + (-1))), (4, .int x4)] [] G Q) ∧ (x3 = 0 → Q x4 G))))))) :
    EvI K mX12_rowAt 0 5 [(0, .ref 66), (1, .int x1), (3, .int x3), (4, .int x4)] [] G Q := by
  refine E_iload 3 dX12_rowAt_5 rfl ?_
  refine E_aload_n 0 dX12_rowAt_7 rfl rfl rfl ?_
  refine E_gI (v := sI G 66 17) fG_X12_235 rfl (lo_66 hL) rfl dX12_rowAt_8 ?_
  refine E_icmp_ge (tgt := 41) dX12_rowAt_11 (by decide) (fun c => ?_) (fun c => ?_)
  · have hB := hB.1 c
    refine E_iconst (v := (-1)) dX12_rowAt_41 (by decide) ?_
    exact E_iret rfl dX12_rowAt_42 ⟨_, rfl, rfl, hB⟩
  · have hB := hB.2 c
    refine E_aload_n 0 dX12_rowAt_14 rfl rfl rfl ?_
    refine E_gR (j := 77) fG_X12_68 rfl (lo_66 hL) (lr_66_18 hL) (by decide) dX12_rowAt_15 ?_
    refine E_iload 3 dX12_rowAt_18 rfl ?_
    obtain ⟨qq1, hB⟩ := hB
    refine E_aI (p := Int32.toNatClampNeg x4) (v := sI G 77 (Int32.toNatClampNeg x4)) (la_77 hL) qq1 rfl rfl dX12_rowAt_20 ?_
    refine E_iload_n 1 dX12_rowAt_21 rfl rfl ?_
    refine E_icmp_ne (tgt := 35) dX12_rowAt_22 (by decide) (fun c => ?_) (fun c => ?_)
    · have hB := hB.1 c
      exact EvI.tr hB rfl
    · have hB := hB.2 c
      refine E_iload_n 2 dX12_rowAt_25 rfl rfl ?_
      refine E_if_ne (tgt := 32) dX12_rowAt_26 (by decide) (fun c => ?_) (fun c => ?_)
      · have hB := hB.1 c
        refine E_iinc (v := x3 + (-1)) (lv' := [(0, .ref 66), (1, .int x1), (3, .int (x3 + (-1))), (4, .int x4)]) 2 dX12_rowAt_32 rfl rfl (by decide) rfl ?_
        exact EvI.tr hB rfl
      · have hB := hB.2 c
        refine E_iload 3 dX12_rowAt_29 rfl ?_
        exact E_iret rfl dX12_rowAt_31 ⟨_, rfl, rfl, hB⟩

set_option maxRecDepth 20000 in
set_option maxHeartbeats 2000000 in
theorem kX12_rowAt_35 {K : KT} {G : St} {Q : Int32 → St → Prop} {x1 : Int32} {x3 : Int32} {x4 : Int32} (hL : Lay G.2.2) 
    (hB : EvI K mX12_rowAt 0 5 [(0, .ref 66), (1, .int x1), (3, .int x3), (4, .int (x4 + 1))] [] G Q) :
    EvI K mX12_rowAt 0 35 [(0, .ref 66), (1, .int x1), (3, .int x3), (4, .int x4)] [] G Q := by
  refine E_iinc (v := x4 + 1) (lv' := [(0, .ref 66), (1, .int x1), (3, .int x3), (4, .int (x4 + 1))]) 3 dX12_rowAt_35 rfl rfl (by decide) rfl ?_
  refine E_goto (tgt := 5) dX12_rowAt_38 (by decide) ?_
  exact EvI.tr hB rfl

set_option maxRecDepth 20000 in
set_option maxHeartbeats 2000000 in
theorem kX12_readCell_0 {K : KT} {G : St} {Q : St → Prop} {x1 : Int32} {x2 : Int32} (hL : Lay G.2.2) 
    (hB : vp_in ((4 * x1) + x2) 40 ∧ ((¬ (sI G 76 (Int32.toNatClampNeg ((4 * x1) + x2))) = 5 → ((¬ (sI G 76 (Int32.toNatClampNeg ((4 * x1) + x2))) = 6 → EvI K mX12_isWord 0 0 [(0, .ref 66), (1, .int 3)] [] G (fun r2 G2 => ((r2 = 0 → vp_in (sI G2 66 7) 1002 ∧ (((sI G2 68 (Int32.toNatClampNeg (sI G2 66 7))) = 2 → vp_in (sI G2 66 7) 1002 ∧ EvI K mX12_rowsOf 0 0 [(0, .ref 66), (1, .int (sI G 76 (Int32.toNatClampNeg ((4 * x1) + x2))))] [] G2 (fun r5 G5 => (((sL G2 70 (Int32.toNatClampNeg (sI G2 66 7))) < (Int32.toInt64 r5) → vp_in (sI G5 66 7) 1002 ∧ EvI K mX12_rowAt 0 0 [(0, .ref 66), (1, .int (sI G 76 (Int32.toNatClampNeg ((4 * x1) + x2)))), (2, .int (Int64.toInt32 (sL G5 70 (Int32.toNatClampNeg (sI G5 66 7)))))] [] G5 (fun r7 G7 => vp_in ((4 * (sI G 66 17)) + x2) 124 ∧ EvV K mX12_readCell 1 192 [(0, .ref 66)] [] (uL G7 78 (Int32.toNatClampNeg ((4 * (sI G 66 17)) + x2)) (Int32.toInt64 r7)) Q)) ∧ (¬ (sL G2 70 (Int32.toNatClampNeg (sI G2 66 7))) < (Int32.toInt64 r5) → EvV K mX12_wrong 0 0 [(0, .ref 66), (1, .int 4)] [] G5 (fun G9 => EvV K mX12_readCell 1 192 [(0, .ref 66)] [] G9 Q))))) ∧ (¬ (sI G2 68 (Int32.toNatClampNeg (sI G2 66 7))) = 2 → EvV K mX12_wrong 0 0 [(0, .ref 66), (1, .int 1)] [] G2 (fun G10 => EvV K mX12_readCell 1 192 [(0, .ref 66)] [] G10 Q)))) ∧ (¬ r2 = 0 → vp_in ((4 * (sI G 66 17)) + x2) 124 ∧ EvV K mX12_readCell 1 192 [(0, .ref 66)] [] (uL G2 78 (Int32.toNatClampNeg ((4 * (sI G 66 17)) + x2)) (-1)) Q)))) ∧ ((sI G 76 (Int32.toNatClampNeg ((4 * x1) + x2))) = 6 → vp_in (sI G 66 7) 1002 ∧ (((sI G 68 (Int32.toNatClampNeg (sI G 66 7))) = 2 → EvV K mX12_readCell 1 81 [(0, .ref 66), (4, .int ((4 * (sI G 66 17)) + x2))] [] G Q) ∧ (¬ (sI G 68 (Int32.toNatClampNeg (sI G 66 7))) = 2 → EvV K mX12_wrong 0 0 [(0, .ref 66), (1, .int 1)] [] G (fun G13 => EvV K mX12_readCell 1 81 [(0, .ref 66), (4, .int ((4 * (sI G 66 17)) + x2))] [] G13 Q)))))) ∧ ((sI G 76 (Int32.toNatClampNeg ((4 * x1) + x2))) = 5 → EvI K mX12_isName 0 0 [(0, .ref 66)] [] G (fun r14 G14 => ((¬ r14 = 0 → EvV K mX12_readCell 1 38 [(0, .ref 66), (4, .int ((4 * (sI G 66 17)) + x2))] [] G14 Q) ∧ (r14 = 0 → EvV K mX12_wrong 0 0 [(0, .ref 66), (1, .int 1)] [] G14 (fun G15 => EvV K mX12_readCell 1 38 [(0, .ref 66), (4, .int ((4 * (sI G 66 17)) + x2))] [] G15 Q))))))) :
    EvV K mX12_readCell 1 0 [(0, .ref 66), (1, .int x1), (2, .int x2)] [] G Q := by
  refine E_aload_n 0 dX12_readCell_0 rfl rfl rfl ?_
  refine E_gR (j := 76) fG_X12_65 rfl (lo_66 hL) (lr_66_14 hL) (by decide) dX12_readCell_1 ?_
  refine E_iconst (v := 4) dX12_readCell_4 (by decide) ?_
  refine E_iload_n 1 dX12_readCell_5 rfl rfl ?_
  refine E_imul dX12_readCell_6 ?_
  refine E_iload_n 2 dX12_readCell_7 rfl rfl ?_
  refine E_iadd dX12_readCell_8 ?_
  obtain ⟨qq1, hB⟩ := hB
  refine E_aI (p := Int32.toNatClampNeg ((4 * x1) + x2)) (v := sI G 76 (Int32.toNatClampNeg ((4 * x1) + x2))) (la_76 hL) qq1 rfl rfl dX12_readCell_9 ?_
  refine E_istore_n (lv' := [(0, .ref 66), (1, .int x1), (2, .int x2), (3, .int (sI G 76 (Int32.toNatClampNeg ((4 * x1) + x2))))]) dX12_readCell_10 rfl (by decide) rfl ?_
  refine E_iconst (v := 4) dX12_readCell_11 (by decide) ?_
  refine E_aload_n 0 dX12_readCell_12 rfl rfl rfl ?_
  refine E_gI (v := sI G 66 17) fG_X12_235 rfl (lo_66 hL) rfl dX12_readCell_13 ?_
  refine E_imul dX12_readCell_16 ?_
  refine E_iload_n 2 dX12_readCell_17 rfl rfl ?_
  refine E_iadd dX12_readCell_18 ?_
  refine E_istore (lv' := [(0, .ref 66), (1, .int x1), (2, .int x2), (3, .int (sI G 76 (Int32.toNatClampNeg ((4 * x1) + x2)))), (4, .int ((4 * (sI G 66 17)) + x2))]) dX12_readCell_19 (by decide) rfl ?_
  refine E_iload_n 3 dX12_readCell_21 rfl rfl ?_
  refine E_iconst (v := 5) dX12_readCell_22 (by decide) ?_
  refine E_icmp_ne (tgt := 57) dX12_readCell_23 (by decide) (fun c => ?_) (fun c => ?_)
  · have hB := hB.1 c
    refine E_iload_n 3 dX12_readCell_57 rfl rfl ?_
    refine E_bipush (v := 6) dX12_readCell_58 (by decide) ?_
    refine E_icmp_ne (tgt := 100) dX12_readCell_60 (by decide) (fun c => ?_) (fun c => ?_)
    · have hB := hB.1 c
      refine E_aload_n 0 dX12_readCell_100 rfl rfl rfl ?_
      refine E_iconst (v := 3) dX12_readCell_101 (by decide) ?_
      refine E_cV (ci := 11) (as := [.int 3]) (st := []) cm_X12_isWord cV_X12_192 ⟨_, _, rfl⟩ (by decide) (lo_66 hL) rfl rfl (by decide) (Nat.le_of_ble_eq_true rfl) (Nat.le_of_ble_eq_true rfl) dX12_readCell_102 hB (fun r G2 hr => ?_)
      obtain ⟨r2, rfl, hE2, hB⟩ := hr
      have hL2 : Lay G2.2.2 := by rw [hE2]; exact hL
      have hE2 : G2.2.2 = G.2.2 := hE2
      show Ev K mX12_readCell 1 105 [(0, .ref 66), (1, .int x1), (2, .int x2), (3, .int (sI G 76 (Int32.toNatClampNeg ((4 * x1) + x2)))), (4, .int ((4 * (sI G 66 17)) + x2))] [.int r2] G2 _
      refine E_if_eq (tgt := 121) dX12_readCell_105 (by decide) (fun c => ?_) (fun c => ?_)
      · have hB := hB.1 c
        refine E_aload_n 0 dX12_readCell_121 rfl rfl rfl ?_
        refine E_gR (j := 68) fG_X12_24 rfl (lo_66 hL2) (lr_66_4 hL2) (by decide) dX12_readCell_122 ?_
        refine E_aload_n 0 dX12_readCell_125 rfl rfl rfl ?_
        refine E_gI (v := sI G2 66 7) fG_X12_179 rfl (lo_66 hL2) rfl dX12_readCell_126 ?_
        obtain ⟨qq3, hB⟩ := hB
        refine E_aI (p := Int32.toNatClampNeg (sI G2 66 7)) (v := sI G2 68 (Int32.toNatClampNeg (sI G2 66 7))) (la_68 hL2) qq3 rfl rfl dX12_readCell_129 ?_
        refine E_iconst (v := 2) dX12_readCell_130 (by decide) ?_
        refine E_icmp_eq (tgt := 142) dX12_readCell_131 (by decide) (fun c => ?_) (fun c => ?_)
        · have hB := hB.1 c
          refine E_aload_n 0 dX12_readCell_142 rfl rfl rfl ?_
          refine E_gR (j := 70) fG_X12_30 rfl (lo_66 hL2) (lr_66_6 hL2) (by decide) dX12_readCell_143 ?_
          refine E_aload_n 0 dX12_readCell_146 rfl rfl rfl ?_
          refine E_gI (v := sI G2 66 7) fG_X12_179 rfl (lo_66 hL2) rfl dX12_readCell_147 ?_
          obtain ⟨qq4, hB⟩ := hB
          refine E_aL (p := Int32.toNatClampNeg (sI G2 66 7)) (v := sL G2 70 (Int32.toNatClampNeg (sI G2 66 7))) (la_70 hL2) qq4 rfl rfl dX12_readCell_150 ?_
          refine E_aload_n 0 dX12_readCell_151 rfl rfl rfl ?_
          refine E_iload_n 3 dX12_readCell_152 rfl rfl ?_
          refine E_cV (ci := 11) (as := [.int (sI G 76 (Int32.toNatClampNeg ((4 * x1) + x2)))]) (st := [.long (sL G2 70 (Int32.toNatClampNeg (sI G2 66 7)))]) cm_X12_rowsOf cV_X12_247 ⟨_, _, rfl⟩ (by decide) (lo_66 hL2) rfl rfl (by decide) (Nat.le_of_ble_eq_true rfl) (Nat.le_of_ble_eq_true rfl) dX12_readCell_153 hB (fun r G5 hr => ?_)
          obtain ⟨r5, rfl, hE5, hB⟩ := hr
          have hL5 : Lay G5.2.2 := by rw [hE5]; exact hL2
          have hE5 : G5.2.2 = G.2.2 := hE5.trans hE2
          show Ev K mX12_readCell 1 156 [(0, .ref 66), (1, .int x1), (2, .int x2), (3, .int (sI G 76 (Int32.toNatClampNeg ((4 * x1) + x2)))), (4, .int ((4 * (sI G 66 17)) + x2))] [.int r5, .long (sL G2 70 (Int32.toNatClampNeg (sI G2 66 7)))] G5 _
          refine E_i2l dX12_readCell_156 rfl ?_
          refine E_lcmp dX12_readCell_157 ?_
          refine E_if_lt (tgt := 169) dX12_readCell_158 (by decide) (fun c => ?_) (fun c => ?_)
          · have hB := hB.1 ((lgc_lt (sL G2 70 (Int32.toNatClampNeg (sI G2 66 7))) (Int32.toInt64 r5)).mp c)
            refine E_aload_n 0 dX12_readCell_169 rfl rfl rfl ?_
            refine E_gR (j := 78) fG_X12_71 rfl (lo_66 hL5) (lr_66_19 hL5) (by decide) dX12_readCell_170 ?_
            refine E_iload 4 dX12_readCell_173 rfl ?_
            refine E_aload_n 0 dX12_readCell_175 rfl rfl rfl ?_
            refine E_iload_n 3 dX12_readCell_176 rfl rfl ?_
            refine E_aload_n 0 dX12_readCell_177 rfl rfl rfl ?_
            refine E_gR (j := 70) fG_X12_30 rfl (lo_66 hL5) (lr_66_6 hL5) (by decide) dX12_readCell_178 ?_
            refine E_aload_n 0 dX12_readCell_181 rfl rfl rfl ?_
            refine E_gI (v := sI G5 66 7) fG_X12_179 rfl (lo_66 hL5) rfl dX12_readCell_182 ?_
            obtain ⟨qq6, hB⟩ := hB
            refine E_aL (p := Int32.toNatClampNeg (sI G5 66 7)) (v := sL G5 70 (Int32.toNatClampNeg (sI G5 66 7))) (la_70 hL5) qq6 rfl rfl dX12_readCell_185 ?_
            refine E_l2i dX12_readCell_186 rfl ?_
            refine E_cV (ci := 11) (as := [.int (sI G 76 (Int32.toNatClampNeg ((4 * x1) + x2))), .int (Int64.toInt32 (sL G5 70 (Int32.toNatClampNeg (sI G5 66 7))))]) (st := [.int ((4 * (sI G 66 17)) + x2), .ref 78]) cm_X12_rowAt cV_X12_250 ⟨_, _, rfl⟩ (by decide) (lo_66 hL5) rfl rfl (by decide) (Nat.le_of_ble_eq_true rfl) (Nat.le_of_ble_eq_true rfl) dX12_readCell_187 hB (fun r G7 hr => ?_)
            obtain ⟨r7, rfl, hE7, hB⟩ := hr
            have hL7 : Lay G7.2.2 := by rw [hE7]; exact hL5
            have hE7 : G7.2.2 = G.2.2 := hE7.trans hE5
            show Ev K mX12_readCell 1 190 [(0, .ref 66), (1, .int x1), (2, .int x2), (3, .int (sI G 76 (Int32.toNatClampNeg ((4 * x1) + x2)))), (4, .int ((4 * (sI G 66 17)) + x2))] [.int r7, .int ((4 * (sI G 66 17)) + x2), .ref 78] G7 _
            refine E_i2l dX12_readCell_190 rfl ?_
            obtain ⟨qq8, hB⟩ := hB
            refine E_sL (p := Int32.toNatClampNeg ((4 * (sI G 66 17)) + x2)) (la_78 hL7) qq8 rfl dX12_readCell_191 ?_
            refine E_sub (lv' := [(0, .ref 66)]) [0] rfl ?_
            exact EvV.tr hB hE7
          · have hB := hB.2 (fun q => c ((lgc_lt (sL G2 70 (Int32.toNatClampNeg (sI G2 66 7))) (Int32.toInt64 r5)).mpr q))
            refine E_aload_n 0 dX12_readCell_161 rfl rfl rfl ?_
            refine E_iconst (v := 4) dX12_readCell_162 (by decide) ?_
            refine E_cV (ci := 11) (as := [.int 4]) (st := []) cm_X12_wrong cV_X12_188 ⟨_, _, rfl⟩ (by decide) (lo_66 hL5) rfl rfl (by decide) (Nat.le_of_ble_eq_true rfl) (Nat.le_of_ble_eq_true rfl) dX12_readCell_163 hB (fun r G9 hr => ?_)
            obtain ⟨rfl, hE9, hB⟩ := hr
            have hL9 : Lay G9.2.2 := by rw [hE9]; exact hL5
            have hE9 : G9.2.2 = G.2.2 := hE9.trans hE5
            show Ev K mX12_readCell 1 166 [(0, .ref 66), (1, .int x1), (2, .int x2), (3, .int (sI G 76 (Int32.toNatClampNeg ((4 * x1) + x2)))), (4, .int ((4 * (sI G 66 17)) + x2))] [] G9 _
            refine E_goto (tgt := 192) dX12_readCell_166 (by decide) ?_
            refine E_sub (lv' := [(0, .ref 66)]) [0] rfl ?_
            exact EvV.tr hB hE9
        · have hB := hB.2 c
          refine E_aload_n 0 dX12_readCell_134 rfl rfl rfl ?_
          refine E_iconst (v := 1) dX12_readCell_135 (by decide) ?_
          refine E_cV (ci := 11) (as := [.int 1]) (st := []) cm_X12_wrong cV_X12_188 ⟨_, _, rfl⟩ (by decide) (lo_66 hL2) rfl rfl (by decide) (Nat.le_of_ble_eq_true rfl) (Nat.le_of_ble_eq_true rfl) dX12_readCell_136 hB (fun r G10 hr => ?_)
          obtain ⟨rfl, hE10, hB⟩ := hr
          have hL10 : Lay G10.2.2 := by rw [hE10]; exact hL2
          have hE10 : G10.2.2 = G.2.2 := hE10.trans hE2
          show Ev K mX12_readCell 1 139 [(0, .ref 66), (1, .int x1), (2, .int x2), (3, .int (sI G 76 (Int32.toNatClampNeg ((4 * x1) + x2)))), (4, .int ((4 * (sI G 66 17)) + x2))] [] G10 _
          refine E_goto (tgt := 192) dX12_readCell_139 (by decide) ?_
          refine E_sub (lv' := [(0, .ref 66)]) [0] rfl ?_
          exact EvV.tr hB hE10
      · have hB := hB.2 c
        refine E_aload_n 0 dX12_readCell_108 rfl rfl rfl ?_
        refine E_gR (j := 78) fG_X12_71 rfl (lo_66 hL2) (lr_66_19 hL2) (by decide) dX12_readCell_109 ?_
        refine E_iload 4 dX12_readCell_112 rfl ?_
        refine E_ldc2 (v := (-1)) tm_1559 dX12_readCell_114 ?_
        obtain ⟨qq11, hB⟩ := hB
        refine E_sL (p := Int32.toNatClampNeg ((4 * (sI G 66 17)) + x2)) (la_78 hL2) qq11 rfl dX12_readCell_117 ?_
        refine E_goto (tgt := 192) dX12_readCell_118 (by decide) ?_
        refine E_sub (lv' := [(0, .ref 66)]) [0] rfl ?_
        exact EvV.tr hB hE2
    · have hB := hB.2 c
      refine E_aload_n 0 dX12_readCell_63 rfl rfl rfl ?_
      refine E_gR (j := 68) fG_X12_24 rfl (lo_66 hL) (lr_66_4 hL) (by decide) dX12_readCell_64 ?_
      refine E_aload_n 0 dX12_readCell_67 rfl rfl rfl ?_
      refine E_gI (v := sI G 66 7) fG_X12_179 rfl (lo_66 hL) rfl dX12_readCell_68 ?_
      obtain ⟨qq12, hB⟩ := hB
      refine E_aI (p := Int32.toNatClampNeg (sI G 66 7)) (v := sI G 68 (Int32.toNatClampNeg (sI G 66 7))) (la_68 hL) qq12 rfl rfl dX12_readCell_71 ?_
      refine E_iconst (v := 2) dX12_readCell_72 (by decide) ?_
      refine E_icmp_eq (tgt := 81) dX12_readCell_73 (by decide) (fun c => ?_) (fun c => ?_)
      · have hB := hB.1 c
        refine E_sub (lv' := [(0, .ref 66), (4, .int ((4 * (sI G 66 17)) + x2))]) [0, 4] rfl ?_
        exact EvV.tr hB rfl
      · have hB := hB.2 c
        refine E_aload_n 0 dX12_readCell_76 rfl rfl rfl ?_
        refine E_iconst (v := 1) dX12_readCell_77 (by decide) ?_
        refine E_cV (ci := 11) (as := [.int 1]) (st := []) cm_X12_wrong cV_X12_188 ⟨_, _, rfl⟩ (by decide) (lo_66 hL) rfl rfl (by decide) (Nat.le_of_ble_eq_true rfl) (Nat.le_of_ble_eq_true rfl) dX12_readCell_78 hB (fun r G13 hr => ?_)
        obtain ⟨rfl, hE13, hB⟩ := hr
        have hL13 : Lay G13.2.2 := by rw [hE13]; exact hL
        have hE13 : G13.2.2 = G.2.2 := hE13
        show Ev K mX12_readCell 1 81 [(0, .ref 66), (1, .int x1), (2, .int x2), (3, .int (sI G 76 (Int32.toNatClampNeg ((4 * x1) + x2)))), (4, .int ((4 * (sI G 66 17)) + x2))] [] G13 _
        refine E_sub (lv' := [(0, .ref 66), (4, .int ((4 * (sI G 66 17)) + x2))]) [0, 4] rfl ?_
        exact EvV.tr hB hE13
  · have hB := hB.2 c
    refine E_aload_n 0 dX12_readCell_26 rfl rfl rfl ?_
    refine E_cV (ci := 11) (as := []) (st := []) cm_X12_isName cV_X12_207 ⟨_, _, rfl⟩ (by decide) (lo_66 hL) rfl rfl (by decide) (Nat.le_of_ble_eq_true rfl) (Nat.le_of_ble_eq_true rfl) dX12_readCell_27 hB (fun r G14 hr => ?_)
    obtain ⟨r14, rfl, hE14, hB⟩ := hr
    have hL14 : Lay G14.2.2 := by rw [hE14]; exact hL
    have hE14 : G14.2.2 = G.2.2 := hE14
    show Ev K mX12_readCell 1 30 [(0, .ref 66), (1, .int x1), (2, .int x2), (3, .int (sI G 76 (Int32.toNatClampNeg ((4 * x1) + x2)))), (4, .int ((4 * (sI G 66 17)) + x2))] [.int r14] G14 _
    refine E_if_ne (tgt := 38) dX12_readCell_30 (by decide) (fun c => ?_) (fun c => ?_)
    · have hB := hB.1 c
      refine E_sub (lv' := [(0, .ref 66), (4, .int ((4 * (sI G 66 17)) + x2))]) [0, 4] rfl ?_
      exact EvV.tr hB hE14
    · have hB := hB.2 c
      refine E_aload_n 0 dX12_readCell_33 rfl rfl rfl ?_
      refine E_iconst (v := 1) dX12_readCell_34 (by decide) ?_
      refine E_cV (ci := 11) (as := [.int 1]) (st := []) cm_X12_wrong cV_X12_188 ⟨_, _, rfl⟩ (by decide) (lo_66 hL14) rfl rfl (by decide) (Nat.le_of_ble_eq_true rfl) (Nat.le_of_ble_eq_true rfl) dX12_readCell_35 hB (fun r G15 hr => ?_)
      obtain ⟨rfl, hE15, hB⟩ := hr
      have hL15 : Lay G15.2.2 := by rw [hE15]; exact hL14
      have hE15 : G15.2.2 = G.2.2 := hE15.trans hE14
      show Ev K mX12_readCell 1 38 [(0, .ref 66), (1, .int x1), (2, .int x2), (3, .int (sI G 76 (Int32.toNatClampNeg ((4 * x1) + x2)))), (4, .int ((4 * (sI G 66 17)) + x2))] [] G15 _
      refine E_sub (lv' := [(0, .ref 66), (4, .int ((4 * (sI G 66 17)) + x2))]) [0, 4] rfl ?_
      exact EvV.tr hB hE15

set_option maxRecDepth 20000 in
set_option maxHeartbeats 2000000 in
theorem kX12_readCell_38 {K : KT} {G : St} {Q : St → Prop} {x4 : Int32} (hL : Lay G.2.2) 
    (hB : vp_in (sI G 66 7) 1002 ∧ vp_in x4 124 ∧ EvV K mX12_readCell 1 192 [(0, .ref 66)] [] (uL G 78 (Int32.toNatClampNeg x4) (sL G 70 (Int32.toNatClampNeg (sI G 66 7)))) Q) :
    EvV K mX12_readCell 1 38 [(0, .ref 66), (4, .int x4)] [] G Q := by
  refine E_aload_n 0 dX12_readCell_38 rfl rfl rfl ?_
  refine E_gR (j := 78) fG_X12_71 rfl (lo_66 hL) (lr_66_19 hL) (by decide) dX12_readCell_39 ?_
  refine E_iload 1 dX12_readCell_42 rfl ?_
  refine E_aload_n 0 dX12_readCell_44 rfl rfl rfl ?_
  refine E_gR (j := 70) fG_X12_30 rfl (lo_66 hL) (lr_66_6 hL) (by decide) dX12_readCell_45 ?_
  refine E_aload_n 0 dX12_readCell_48 rfl rfl rfl ?_
  refine E_gI (v := sI G 66 7) fG_X12_179 rfl (lo_66 hL) rfl dX12_readCell_49 ?_
  obtain ⟨qq1, hB⟩ := hB
  refine E_aL (p := Int32.toNatClampNeg (sI G 66 7)) (v := sL G 70 (Int32.toNatClampNeg (sI G 66 7))) (la_70 hL) qq1 rfl rfl dX12_readCell_52 ?_
  obtain ⟨qq2, hB⟩ := hB
  refine E_sL (p := Int32.toNatClampNeg x4) (la_78 hL) qq2 rfl dX12_readCell_53 ?_
  refine E_goto (tgt := 192) dX12_readCell_54 (by decide) ?_
  refine E_sub (lv' := [(0, .ref 66)]) [0] rfl ?_
  exact EvV.tr hB rfl

set_option maxRecDepth 20000 in
set_option maxHeartbeats 2000000 in
theorem kX12_readCell_81 {K : KT} {G : St} {Q : St → Prop} {x4 : Int32} (hL : Lay G.2.2) 
    (hB : vp_in (sI G 66 7) 1002 ∧ vp_in x4 124 ∧ EvV K mX12_readCell 1 192 [(0, .ref 66)] [] (uL G 78 (Int32.toNatClampNeg x4) (sL G 70 (Int32.toNatClampNeg (sI G 66 7)))) Q) :
    EvV K mX12_readCell 1 81 [(0, .ref 66), (4, .int x4)] [] G Q := by
  refine E_aload_n 0 dX12_readCell_81 rfl rfl rfl ?_
  refine E_gR (j := 78) fG_X12_71 rfl (lo_66 hL) (lr_66_19 hL) (by decide) dX12_readCell_82 ?_
  refine E_iload 1 dX12_readCell_85 rfl ?_
  refine E_aload_n 0 dX12_readCell_87 rfl rfl rfl ?_
  refine E_gR (j := 70) fG_X12_30 rfl (lo_66 hL) (lr_66_6 hL) (by decide) dX12_readCell_88 ?_
  refine E_aload_n 0 dX12_readCell_91 rfl rfl rfl ?_
  refine E_gI (v := sI G 66 7) fG_X12_179 rfl (lo_66 hL) rfl dX12_readCell_92 ?_
  obtain ⟨qq1, hB⟩ := hB
  refine E_aL (p := Int32.toNatClampNeg (sI G 66 7)) (v := sL G 70 (Int32.toNatClampNeg (sI G 66 7))) (la_70 hL) qq1 rfl rfl dX12_readCell_95 ?_
  obtain ⟨qq2, hB⟩ := hB
  refine E_sL (p := Int32.toNatClampNeg x4) (la_78 hL) qq2 rfl dX12_readCell_96 ?_
  refine E_goto (tgt := 192) dX12_readCell_97 (by decide) ?_
  refine E_sub (lv' := [(0, .ref 66)]) [0] rfl ?_
  exact EvV.tr hB rfl

set_option maxRecDepth 20000 in
set_option maxHeartbeats 2000000 in
theorem kX12_readCell_192 {K : KT} {G : St} {Q : St → Prop}  (hL : Lay G.2.2) 
    (hB : ((¬ (sI G 66 8) = 0 → Q (uI G 66 7 ((sI G 66 7) + 0))) ∧ ((sI G 66 8) = 0 → Q (uI G 66 7 ((sI G 66 7) + 1))))) :
    EvV K mX12_readCell 1 192 [(0, .ref 66)] [] G Q := by
  refine E_aload_n 0 dX12_readCell_192 rfl rfl rfl ?_
  refine E_dup dX12_readCell_193 rfl ?_
  refine E_gI (v := sI G 66 7) fG_X12_179 rfl (lo_66 hL) rfl dX12_readCell_194 ?_
  refine E_aload_n 0 dX12_readCell_197 rfl rfl rfl ?_
  refine E_gI (v := sI G 66 8) fG_X12_182 rfl (lo_66 hL) rfl dX12_readCell_198 ?_
  refine E_if_ne (tgt := 208) dX12_readCell_201 (by decide) (fun c => ?_) (fun c => ?_)
  · have hB := hB.1 c
    refine E_iconst (v := 0) dX12_readCell_208 (by decide) ?_
    refine E_iadd dX12_readCell_209 ?_
    refine E_pI fP_X12_179 rfl (lo_66 hL) dX12_readCell_210 ?_
    exact E_vret rfl dX12_readCell_213 ⟨rfl, rfl, hB⟩
  · have hB := hB.2 c
    refine E_iconst (v := 1) dX12_readCell_204 (by decide) ?_
    refine E_goto (tgt := 209) dX12_readCell_205 (by decide) ?_
    refine E_iadd dX12_readCell_209 ?_
    refine E_pI fP_X12_179 rfl (lo_66 hL) dX12_readCell_210 ?_
    exact E_vret rfl dX12_readCell_213 ⟨rfl, rfl, hB⟩

set_option maxRecDepth 20000 in
set_option maxHeartbeats 2000000 in
theorem kX12_readRow_0 {K : KT} {G : St} {Q : St → Prop}  (hL : Lay G.2.2) 
    (hB : EvI K mX12_isName 0 0 [(0, .ref 66)] [] G (fun r1 G1 => ((r1 = 0 → EvV K mX12_readRow 2 16 [(0, .ref 66)] [.int (-1)] G1 Q) ∧ (¬ r1 = 0 → EvI K mX12_findTable 0 0 [(0, .ref 66), (1, .int 0)] [] G1 (fun r2 G2 => EvV K mX12_readRow 2 16 [(0, .ref 66)] [.int r2] G2 Q))))) :
    EvV K mX12_readRow 2 0 [(0, .ref 66)] [] G Q := by
  refine E_aload_n 0 dX12_readRow_0 rfl rfl rfl ?_
  refine E_cV (ci := 11) (as := []) (st := []) cm_X12_isName cV_X12_207 ⟨_, _, rfl⟩ (by decide) (lo_66 hL) rfl rfl (by decide) (Nat.le_of_ble_eq_true rfl) (Nat.le_of_ble_eq_true rfl) dX12_readRow_1 hB (fun r G1 hr => ?_)
  obtain ⟨r1, rfl, hE1, hB⟩ := hr
  have hL1 : Lay G1.2.2 := by rw [hE1]; exact hL
  have hE1 : G1.2.2 = G.2.2 := hE1
  show Ev K mX12_readRow 2 4 [(0, .ref 66)] [.int r1] G1 _
  refine E_if_eq (tgt := 15) dX12_readRow_4 (by decide) (fun c => ?_) (fun c => ?_)
  · have hB := hB.1 c
    refine E_iconst (v := (-1)) dX12_readRow_15 (by decide) ?_
    exact EvV.tr hB hE1
  · have hB := hB.2 c
    refine E_aload_n 0 dX12_readRow_7 rfl rfl rfl ?_
    refine E_iconst (v := 0) dX12_readRow_8 (by decide) ?_
    refine E_cV (ci := 11) (as := [.int 0]) (st := []) cm_X12_findTable cV_X12_211 ⟨_, _, rfl⟩ (by decide) (lo_66 hL1) rfl rfl (by decide) (Nat.le_of_ble_eq_true rfl) (Nat.le_of_ble_eq_true rfl) dX12_readRow_9 hB (fun r G2 hr => ?_)
    obtain ⟨r2, rfl, hE2, hB⟩ := hr
    have hL2 : Lay G2.2.2 := by rw [hE2]; exact hL1
    have hE2 : G2.2.2 = G.2.2 := hE2.trans hE1
    show Ev K mX12_readRow 2 12 [(0, .ref 66)] [.int r2] G2 _
    refine E_goto (tgt := 16) dX12_readRow_12 (by decide) ?_
    exact EvV.tr hB hE2

set_option maxRecDepth 20000 in
set_option maxHeartbeats 2000000 in
theorem kX12_readRow_16 {K : KT} {G : St} {Q : St → Prop} {xs0 : Int32} (hL : Lay G.2.2) 
    (hB : EvI K mX12_isName 0 0 [(0, .ref 66)] [] G (fun r1 G1 => ((¬ r1 = 0 → ((0 ≤ xs0 → ((¬ (sI G1 66 17) = 30 → EvV K mX12_readRow 2 58 [(0, .ref 66), (1, .int xs0)] [] G1 Q) ∧ ((sI G1 66 17) = 30 → EvV K mX12_wrong 0 0 [(0, .ref 66), (1, .int 5)] [] G1 (fun G2 => EvV K mX12_readRow 2 58 [(0, .ref 66), (1, .int xs0)] [] G2 Q)))) ∧ (¬ 0 ≤ xs0 → EvV K mX12_wrong 0 0 [(0, .ref 66), (1, .int 2)] [] G1 (fun G3 => EvV K mX12_readRow 2 58 [(0, .ref 66), (1, .int xs0)] [] G3 Q)))) ∧ (r1 = 0 → EvV K mX12_wrong 0 0 [(0, .ref 66), (1, .int 1)] [] G1 (fun G4 => EvV K mX12_readRow 2 58 [(0, .ref 66), (1, .int xs0)] [] G4 Q))))) :
    EvV K mX12_readRow 2 16 [(0, .ref 66)] [.int xs0] G Q := by
  refine E_istore_n (lv' := [(0, .ref 66), (1, .int xs0)]) dX12_readRow_16 rfl (by decide) rfl ?_
  refine E_aload_n 0 dX12_readRow_17 rfl rfl rfl ?_
  refine E_cV (ci := 11) (as := []) (st := []) cm_X12_isName cV_X12_207 ⟨_, _, rfl⟩ (by decide) (lo_66 hL) rfl rfl (by decide) (Nat.le_of_ble_eq_true rfl) (Nat.le_of_ble_eq_true rfl) dX12_readRow_18 hB (fun r G1 hr => ?_)
  obtain ⟨r1, rfl, hE1, hB⟩ := hr
  have hL1 : Lay G1.2.2 := by rw [hE1]; exact hL
  have hE1 : G1.2.2 = G.2.2 := hE1
  show Ev K mX12_readRow 2 21 [(0, .ref 66), (1, .int xs0)] [.int r1] G1 _
  refine E_if_ne (tgt := 32) dX12_readRow_21 (by decide) (fun c => ?_) (fun c => ?_)
  · have hB := hB.1 c
    refine E_iload_n 1 dX12_readRow_32 rfl rfl ?_
    refine E_if_ge (tgt := 44) dX12_readRow_33 (by decide) (fun c => ?_) (fun c => ?_)
    · have hB := hB.1 c
      refine E_aload_n 0 dX12_readRow_44 rfl rfl rfl ?_
      refine E_gI (v := sI G1 66 17) fG_X12_235 rfl (lo_66 hL1) rfl dX12_readRow_45 ?_
      refine E_bipush (v := 30) dX12_readRow_48 (by decide) ?_
      refine E_icmp_ne (tgt := 58) dX12_readRow_50 (by decide) (fun c => ?_) (fun c => ?_)
      · have hB := hB.1 c
        exact EvV.tr hB hE1
      · have hB := hB.2 c
        refine E_aload_n 0 dX12_readRow_53 rfl rfl rfl ?_
        refine E_iconst (v := 5) dX12_readRow_54 (by decide) ?_
        refine E_cV (ci := 11) (as := [.int 5]) (st := []) cm_X12_wrong cV_X12_188 ⟨_, _, rfl⟩ (by decide) (lo_66 hL1) rfl rfl (by decide) (Nat.le_of_ble_eq_true rfl) (Nat.le_of_ble_eq_true rfl) dX12_readRow_55 hB (fun r G2 hr => ?_)
        obtain ⟨rfl, hE2, hB⟩ := hr
        have hL2 : Lay G2.2.2 := by rw [hE2]; exact hL1
        have hE2 : G2.2.2 = G.2.2 := hE2.trans hE1
        show Ev K mX12_readRow 2 58 [(0, .ref 66), (1, .int xs0)] [] G2 _
        exact EvV.tr hB hE2
    · have hB := hB.2 c
      refine E_aload_n 0 dX12_readRow_36 rfl rfl rfl ?_
      refine E_iconst (v := 2) dX12_readRow_37 (by decide) ?_
      refine E_cV (ci := 11) (as := [.int 2]) (st := []) cm_X12_wrong cV_X12_188 ⟨_, _, rfl⟩ (by decide) (lo_66 hL1) rfl rfl (by decide) (Nat.le_of_ble_eq_true rfl) (Nat.le_of_ble_eq_true rfl) dX12_readRow_38 hB (fun r G3 hr => ?_)
      obtain ⟨rfl, hE3, hB⟩ := hr
      have hL3 : Lay G3.2.2 := by rw [hE3]; exact hL1
      have hE3 : G3.2.2 = G.2.2 := hE3.trans hE1
      show Ev K mX12_readRow 2 41 [(0, .ref 66), (1, .int xs0)] [] G3 _
      refine E_goto (tgt := 58) dX12_readRow_41 (by decide) ?_
      exact EvV.tr hB hE3
  · have hB := hB.2 c
    refine E_aload_n 0 dX12_readRow_24 rfl rfl rfl ?_
    refine E_iconst (v := 1) dX12_readRow_25 (by decide) ?_
    refine E_cV (ci := 11) (as := [.int 1]) (st := []) cm_X12_wrong cV_X12_188 ⟨_, _, rfl⟩ (by decide) (lo_66 hL1) rfl rfl (by decide) (Nat.le_of_ble_eq_true rfl) (Nat.le_of_ble_eq_true rfl) dX12_readRow_26 hB (fun r G4 hr => ?_)
    obtain ⟨rfl, hE4, hB⟩ := hr
    have hL4 : Lay G4.2.2 := by rw [hE4]; exact hL1
    have hE4 : G4.2.2 = G.2.2 := hE4.trans hE1
    show Ev K mX12_readRow 2 29 [(0, .ref 66), (1, .int xs0)] [] G4 _
    refine E_goto (tgt := 58) dX12_readRow_29 (by decide) ?_
    exact EvV.tr hB hE4

set_option maxRecDepth 20000 in
set_option maxHeartbeats 2000000 in
theorem kX12_readRow_58 {K : KT} {G : St} {Q : St → Prop} {x1 : Int32} (hL : Lay G.2.2) 
    (hB : (((sI G 66 8) ≤ 0 → EvV K mX12_readRow 2 78 [(0, .ref 66), (1, .int x1), (2, .int 0)] [] (uI G 66 7 ((sI G 66 7) + 1)) Q) ∧ (¬ (sI G 66 8) ≤ 0 → Q G))) :
    EvV K mX12_readRow 2 58 [(0, .ref 66), (1, .int x1)] [] G Q := by
  refine E_aload_n 0 dX12_readRow_58 rfl rfl rfl ?_
  refine E_gI (v := sI G 66 8) fG_X12_182 rfl (lo_66 hL) rfl dX12_readRow_59 ?_
  refine E_if_le (tgt := 66) dX12_readRow_62 (by decide) (fun c => ?_) (fun c => ?_)
  · have hB := hB.1 c
    refine E_aload_n 0 dX12_readRow_66 rfl rfl rfl ?_
    refine E_dup dX12_readRow_67 rfl ?_
    refine E_gI (v := sI G 66 7) fG_X12_179 rfl (lo_66 hL) rfl dX12_readRow_68 ?_
    refine E_iconst (v := 1) dX12_readRow_71 (by decide) ?_
    refine E_iadd dX12_readRow_72 ?_
    refine E_pI fP_X12_179 rfl (lo_66 hL) dX12_readRow_73 ?_
    refine E_iconst (v := 0) dX12_readRow_76 (by decide) ?_
    refine E_istore_n (lv' := [(0, .ref 66), (1, .int x1), (2, .int 0)]) dX12_readRow_77 rfl (by decide) rfl ?_
    exact EvV.tr hB rfl
  · have hB := hB.2 c
    exact E_vret rfl dX12_readRow_65 ⟨rfl, rfl, hB⟩

set_option maxRecDepth 20000 in
set_option maxHeartbeats 2000000 in
theorem kX12_readRow_78 {K : KT} {G : St} {Q : St → Prop} {x1 : Int32} {x2 : Int32} (hL : Lay G.2.2) 
    (hB : vp_in x1 10 ∧ (((sI G 74 (Int32.toNatClampNeg x1)) ≤ x2 → EvV K mX12_readRow 2 107 [(0, .ref 66), (1, .int x1)] [] G Q) ∧ (¬ (sI G 74 (Int32.toNatClampNeg x1)) ≤ x2 → ((¬ (sI G 66 8) = 0 → EvV K mX12_readRow 2 107 [(0, .ref 66), (1, .int x1)] [] G Q) ∧ ((sI G 66 8) = 0 → EvV K mX12_readCell 1 0 [(0, .ref 66), (1, .int x1), (2, .int x2)] [] G (fun G2 => EvV K mX12_readRow 2 78 [(0, .ref 66), (1, .int x1), (2, .int (x2 + 1))] [] G2 Q)))))) :
    EvV K mX12_readRow 2 78 [(0, .ref 66), (1, .int x1), (2, .int x2)] [] G Q := by
  refine E_iload_n 2 dX12_readRow_78 rfl rfl ?_
  refine E_aload_n 0 dX12_readRow_79 rfl rfl rfl ?_
  refine E_gR (j := 74) fG_X12_59 rfl (lo_66 hL) (lr_66_12 hL) (by decide) dX12_readRow_80 ?_
  refine E_iload_n 1 dX12_readRow_83 rfl rfl ?_
  obtain ⟨qq1, hB⟩ := hB
  refine E_aI (p := Int32.toNatClampNeg x1) (v := sI G 74 (Int32.toNatClampNeg x1)) (la_74 hL) qq1 rfl rfl dX12_readRow_84 ?_
  refine E_icmp_ge (tgt := 107) dX12_readRow_85 (by decide) (fun c => ?_) (fun c => ?_)
  · have hB := hB.1 c
    refine E_sub (lv' := [(0, .ref 66), (1, .int x1)]) [0, 1] rfl ?_
    exact EvV.tr hB rfl
  · have hB := hB.2 c
    refine E_aload_n 0 dX12_readRow_88 rfl rfl rfl ?_
    refine E_gI (v := sI G 66 8) fG_X12_182 rfl (lo_66 hL) rfl dX12_readRow_89 ?_
    refine E_if_ne (tgt := 107) dX12_readRow_92 (by decide) (fun c => ?_) (fun c => ?_)
    · have hB := hB.1 c
      refine E_sub (lv' := [(0, .ref 66), (1, .int x1)]) [0, 1] rfl ?_
      exact EvV.tr hB rfl
    · have hB := hB.2 c
      refine E_aload_n 0 dX12_readRow_95 rfl rfl rfl ?_
      refine E_iload_n 1 dX12_readRow_96 rfl rfl ?_
      refine E_iload_n 2 dX12_readRow_97 rfl rfl ?_
      refine E_cV (ci := 11) (as := [.int x1, .int x2]) (st := []) cm_X12_readCell cV_X12_241 ⟨_, _, rfl⟩ (by decide) (lo_66 hL) rfl rfl (by decide) (Nat.le_of_ble_eq_true rfl) (Nat.le_of_ble_eq_true rfl) dX12_readRow_98 hB (fun r G2 hr => ?_)
      obtain ⟨rfl, hE2, hB⟩ := hr
      have hL2 : Lay G2.2.2 := by rw [hE2]; exact hL
      have hE2 : G2.2.2 = G.2.2 := hE2
      show Ev K mX12_readRow 2 101 [(0, .ref 66), (1, .int x1), (2, .int x2)] [] G2 _
      refine E_iinc (v := x2 + 1) (lv' := [(0, .ref 66), (1, .int x1), (2, .int (x2 + 1))]) 2 dX12_readRow_101 rfl rfl (by decide) rfl ?_
      refine E_goto (tgt := 78) dX12_readRow_104 (by decide) ?_
      exact EvV.tr hB hE2

set_option maxRecDepth 20000 in
set_option maxHeartbeats 2000000 in
theorem kX12_readRow_107 {K : KT} {G : St} {Q : St → Prop} {x1 : Int32} (hL : Lay G.2.2) 
    (hB : EvV K mX12_takeSign 1 0 [(0, .ref 66), (1, .int 59)] [] G (fun G1 => vp_in (sI G1 66 17) 31 ∧ ((¬ (sI G1 66 8) = 0 → Q (uI (uI G1 77 (Int32.toNatClampNeg (sI G1 66 17)) x1) 66 17 ((sI G1 66 17) + 0))) ∧ ((sI G1 66 8) = 0 → Q (uI (uI G1 77 (Int32.toNatClampNeg (sI G1 66 17)) x1) 66 17 ((sI G1 66 17) + 1)))))) :
    EvV K mX12_readRow 2 107 [(0, .ref 66), (1, .int x1)] [] G Q := by
  refine E_aload_n 0 dX12_readRow_107 rfl rfl rfl ?_
  refine E_bipush (v := 59) dX12_readRow_108 (by decide) ?_
  refine E_cV (ci := 11) (as := [.int 59]) (st := []) cm_X12_takeSign cV_X12_220 ⟨_, _, rfl⟩ (by decide) (lo_66 hL) rfl rfl (by decide) (Nat.le_of_ble_eq_true rfl) (Nat.le_of_ble_eq_true rfl) dX12_readRow_110 hB (fun r G1 hr => ?_)
  obtain ⟨rfl, hE1, hB⟩ := hr
  have hL1 : Lay G1.2.2 := by rw [hE1]; exact hL
  have hE1 : G1.2.2 = G.2.2 := hE1
  show Ev K mX12_readRow 2 113 [(0, .ref 66), (1, .int x1)] [] G1 _
  refine E_aload_n 0 dX12_readRow_113 rfl rfl rfl ?_
  refine E_gR (j := 77) fG_X12_68 rfl (lo_66 hL1) (lr_66_18 hL1) (by decide) dX12_readRow_114 ?_
  refine E_aload_n 0 dX12_readRow_117 rfl rfl rfl ?_
  refine E_gI (v := sI G1 66 17) fG_X12_235 rfl (lo_66 hL1) rfl dX12_readRow_118 ?_
  refine E_iload_n 1 dX12_readRow_121 rfl rfl ?_
  obtain ⟨qq2, hB⟩ := hB
  refine E_sI (p := Int32.toNatClampNeg (sI G1 66 17)) (la_77 hL1) qq2 rfl dX12_readRow_122 ?_
  refine E_aload_n 0 dX12_readRow_123 rfl rfl rfl ?_
  refine E_dup dX12_readRow_124 rfl ?_
  refine E_gI (v := sI G1 66 17) fG_X12_235 rfl (lo_66 hL1) rfl dX12_readRow_125 ?_
  refine E_aload_n 0 dX12_readRow_128 rfl rfl rfl ?_
  refine E_gI (v := sI G1 66 8) fG_X12_182 rfl (lo_66 hL1) rfl dX12_readRow_129 ?_
  refine E_if_ne (tgt := 139) dX12_readRow_132 (by decide) (fun c => ?_) (fun c => ?_)
  · have hB := hB.1 c
    refine E_iconst (v := 0) dX12_readRow_139 (by decide) ?_
    refine E_iadd dX12_readRow_140 ?_
    refine E_pI fP_X12_235 rfl (lo_66 hL1) dX12_readRow_141 ?_
    exact E_vret rfl dX12_readRow_144 ⟨rfl, hE1, hB⟩
  · have hB := hB.2 c
    refine E_iconst (v := 1) dX12_readRow_135 (by decide) ?_
    refine E_goto (tgt := 140) dX12_readRow_136 (by decide) ?_
    refine E_iadd dX12_readRow_140 ?_
    refine E_pI fP_X12_235 rfl (lo_66 hL1) dX12_readRow_141 ?_
    exact E_vret rfl dX12_readRow_144 ⟨rfl, hE1, hB⟩

set_option maxRecDepth 20000 in
set_option maxHeartbeats 2000000 in
theorem kX12_rows_0 {K : KT} {G : St} {Q : Int32 → St → Prop}  (hL : Lay G.2.2) 
    (hB : EvV K mX12_cutAll 1 0 [(0, .ref 66)] [] (uI G 66 0 0) (fun G1 => EvI K mX12_rows 3 17 [(0, .ref 66)] [] (uI G1 66 17 (sI G1 66 16)) Q)) :
    EvI K mX12_rows 3 0 [(0, .ref 66)] [] G Q := by
  refine E_aload_n 0 dX12_rows_0 rfl rfl rfl ?_
  refine E_iconst (v := 0) dX12_rows_1 (by decide) ?_
  refine E_pI fP_X12_1 rfl (lo_66 hL) dX12_rows_2 ?_
  refine E_aload_n 0 dX12_rows_5 rfl rfl rfl ?_
  refine E_cV (ci := 11) (as := []) (st := []) cm_X12_cutAll cV_X12_198 ⟨_, _, rfl⟩ (by decide) (lo_66 hL) rfl rfl (by decide) (Nat.le_of_ble_eq_true rfl) (Nat.le_of_ble_eq_true rfl) dX12_rows_6 hB (fun r G1 hr => ?_)
  obtain ⟨rfl, hE1, hB⟩ := hr
  have hL1 : Lay G1.2.2 := by rw [hE1]; exact hL
  have hE1 : G1.2.2 = G.2.2 := hE1
  show Ev K mX12_rows 3 9 [(0, .ref 66)] [] G1 _
  refine E_aload_n 0 dX12_rows_9 rfl rfl rfl ?_
  refine E_aload_n 0 dX12_rows_10 rfl rfl rfl ?_
  refine E_gI (v := sI G1 66 16) fG_X12_223 rfl (lo_66 hL1) rfl dX12_rows_11 ?_
  refine E_pI fP_X12_235 rfl (lo_66 hL1) dX12_rows_14 ?_
  exact EvI.tr hB hE1

set_option maxRecDepth 20000 in
set_option maxHeartbeats 2000000 in
theorem kX12_rows_17 {K : KT} {G : St} {Q : Int32 → St → Prop}  (hL : Lay G.2.2) 
    (hB : ((¬ (sI G 66 8) = 0 → EvI K mX12_rows 3 43 [(0, .ref 66)] [] G Q) ∧ ((sI G 66 8) = 0 → vp_in (sI G 66 7) 1002 ∧ (((sI G 68 (Int32.toNatClampNeg (sI G 66 7))) = 0 → EvI K mX12_rows 3 43 [(0, .ref 66)] [] G Q) ∧ (¬ (sI G 68 (Int32.toNatClampNeg (sI G 66 7))) = 0 → EvV K mX12_readRow 2 0 [(0, .ref 66)] [] G (fun G2 => EvI K mX12_rows 3 17 [(0, .ref 66)] [] G2 Q)))))) :
    EvI K mX12_rows 3 17 [(0, .ref 66)] [] G Q := by
  refine E_aload_n 0 dX12_rows_17 rfl rfl rfl ?_
  refine E_gI (v := sI G 66 8) fG_X12_182 rfl (lo_66 hL) rfl dX12_rows_18 ?_
  refine E_if_ne (tgt := 43) dX12_rows_21 (by decide) (fun c => ?_) (fun c => ?_)
  · have hB := hB.1 c
    exact EvI.tr hB rfl
  · have hB := hB.2 c
    refine E_aload_n 0 dX12_rows_24 rfl rfl rfl ?_
    refine E_gR (j := 68) fG_X12_24 rfl (lo_66 hL) (lr_66_4 hL) (by decide) dX12_rows_25 ?_
    refine E_aload_n 0 dX12_rows_28 rfl rfl rfl ?_
    refine E_gI (v := sI G 66 7) fG_X12_179 rfl (lo_66 hL) rfl dX12_rows_29 ?_
    obtain ⟨qq1, hB⟩ := hB
    refine E_aI (p := Int32.toNatClampNeg (sI G 66 7)) (v := sI G 68 (Int32.toNatClampNeg (sI G 66 7))) (la_68 hL) qq1 rfl rfl dX12_rows_32 ?_
    refine E_if_eq (tgt := 43) dX12_rows_33 (by decide) (fun c => ?_) (fun c => ?_)
    · have hB := hB.1 c
      exact EvI.tr hB rfl
    · have hB := hB.2 c
      refine E_aload_n 0 dX12_rows_36 rfl rfl rfl ?_
      refine E_cV (ci := 11) (as := []) (st := []) cm_X12_readRow cV_X12_238 ⟨_, _, rfl⟩ (by decide) (lo_66 hL) rfl rfl (by decide) (Nat.le_of_ble_eq_true rfl) (Nat.le_of_ble_eq_true rfl) dX12_rows_37 hB (fun r G2 hr => ?_)
      obtain ⟨rfl, hE2, hB⟩ := hr
      have hL2 : Lay G2.2.2 := by rw [hE2]; exact hL
      have hE2 : G2.2.2 = G.2.2 := hE2
      show Ev K mX12_rows 3 40 [(0, .ref 66)] [] G2 _
      refine E_goto (tgt := 17) dX12_rows_40 (by decide) ?_
      exact EvI.tr hB hE2

set_option maxRecDepth 20000 in
set_option maxHeartbeats 2000000 in
theorem kX12_rows_43 {K : KT} {G : St} {Q : Int32 → St → Prop}  (hL : Lay G.2.2) 
    (hB : ((¬ (sI G 66 8) = 0 → Q (sI G 66 8) G) ∧ ((sI G 66 8) = 0 → Q (sI G 66 8) (uI (uI G 66 16 (sI G 66 17)) 66 15 1)))) :
    EvI K mX12_rows 3 43 [(0, .ref 66)] [] G Q := by
  refine E_aload_n 0 dX12_rows_43 rfl rfl rfl ?_
  refine E_gI (v := sI G 66 8) fG_X12_182 rfl (lo_66 hL) rfl dX12_rows_44 ?_
  refine E_if_ne (tgt := 63) dX12_rows_47 (by decide) (fun c => ?_) (fun c => ?_)
  · have hB := hB.1 c
    refine E_aload_n 0 dX12_rows_63 rfl rfl rfl ?_
    refine E_gI (v := sI G 66 8) fG_X12_182 rfl (lo_66 hL) rfl dX12_rows_64 ?_
    exact E_iret rfl dX12_rows_67 ⟨_, rfl, rfl, hB⟩
  · have hB := hB.2 c
    refine E_aload_n 0 dX12_rows_50 rfl rfl rfl ?_
    refine E_aload_n 0 dX12_rows_51 rfl rfl rfl ?_
    refine E_gI (v := sI G 66 17) fG_X12_235 rfl (lo_66 hL) rfl dX12_rows_52 ?_
    refine E_pI fP_X12_223 rfl (lo_66 hL) dX12_rows_55 ?_
    refine E_aload_n 0 dX12_rows_58 rfl rfl rfl ?_
    refine E_iconst (v := 1) dX12_rows_59 (by decide) ?_
    refine E_pZ fP_X12_152 rfl (lo_66 hL) (Or.inr rfl) dX12_rows_60 ?_
    refine E_aload_n 0 dX12_rows_63 rfl rfl rfl ?_
    refine E_gI (v := sI G 66 8) fG_X12_182 rfl (lo_66 hL) rfl dX12_rows_64 ?_
    exact E_iret rfl dX12_rows_67 ⟨_, rfl, rfl, hB⟩

set_option maxRecDepth 20000 in
set_option maxHeartbeats 2000000 in
theorem kX12_readTerm_0 {K : KT} {G : St} {Q : St → Prop}  (hL : Lay G.2.2) 
    (hB : EvI K mX12_isWord 0 0 [(0, .ref 66), (1, .int 5)] [] G (fun r1 G1 => ((¬ r1 = 0 → EvV K mX12_readTerm 1 22 [(0, .ref 66)] [.int 1] G1 Q) ∧ (r1 = 0 → EvI K mX12_isWord 0 0 [(0, .ref 66), (1, .int 6)] [] G1 (fun r2 G2 => ((r2 = 0 → EvV K mX12_readTerm 1 22 [(0, .ref 66)] [.int 0] G2 Q) ∧ (¬ r2 = 0 → EvV K mX12_readTerm 1 22 [(0, .ref 66)] [.int 1] G2 Q))))))) :
    EvV K mX12_readTerm 1 0 [(0, .ref 66)] [] G Q := by
  refine E_aload_n 0 dX12_readTerm_0 rfl rfl rfl ?_
  refine E_iconst (v := 5) dX12_readTerm_1 (by decide) ?_
  refine E_cV (ci := 11) (as := [.int 5]) (st := []) cm_X12_isWord cV_X12_192 ⟨_, _, rfl⟩ (by decide) (lo_66 hL) rfl rfl (by decide) (Nat.le_of_ble_eq_true rfl) (Nat.le_of_ble_eq_true rfl) dX12_readTerm_2 hB (fun r G1 hr => ?_)
  obtain ⟨r1, rfl, hE1, hB⟩ := hr
  have hL1 : Lay G1.2.2 := by rw [hE1]; exact hL
  have hE1 : G1.2.2 = G.2.2 := hE1
  show Ev K mX12_readTerm 1 5 [(0, .ref 66)] [.int r1] G1 _
  refine E_if_ne (tgt := 17) dX12_readTerm_5 (by decide) (fun c => ?_) (fun c => ?_)
  · have hB := hB.1 c
    refine E_iconst (v := 1) dX12_readTerm_17 (by decide) ?_
    refine E_goto (tgt := 22) dX12_readTerm_18 (by decide) ?_
    exact EvV.tr hB hE1
  · have hB := hB.2 c
    refine E_aload_n 0 dX12_readTerm_8 rfl rfl rfl ?_
    refine E_bipush (v := 6) dX12_readTerm_9 (by decide) ?_
    refine E_cV (ci := 11) (as := [.int 6]) (st := []) cm_X12_isWord cV_X12_192 ⟨_, _, rfl⟩ (by decide) (lo_66 hL1) rfl rfl (by decide) (Nat.le_of_ble_eq_true rfl) (Nat.le_of_ble_eq_true rfl) dX12_readTerm_11 hB (fun r G2 hr => ?_)
    obtain ⟨r2, rfl, hE2, hB⟩ := hr
    have hL2 : Lay G2.2.2 := by rw [hE2]; exact hL1
    have hE2 : G2.2.2 = G.2.2 := hE2.trans hE1
    show Ev K mX12_readTerm 1 14 [(0, .ref 66)] [.int r2] G2 _
    refine E_if_eq (tgt := 21) dX12_readTerm_14 (by decide) (fun c => ?_) (fun c => ?_)
    · have hB := hB.1 c
      refine E_iconst (v := 0) dX12_readTerm_21 (by decide) ?_
      exact EvV.tr hB hE2
    · have hB := hB.2 c
      refine E_iconst (v := 1) dX12_readTerm_17 (by decide) ?_
      refine E_goto (tgt := 22) dX12_readTerm_18 (by decide) ?_
      exact EvV.tr hB hE2

set_option maxRecDepth 20000 in
set_option maxHeartbeats 2000000 in
theorem kX12_readTerm_22 {K : KT} {G : St} {Q : St → Prop} {xs0 : Int32} (hL : Lay G.2.2) 
    (hB : EvI K mX12_isName 0 0 [(0, .ref 66)] [] G (fun r1 G1 => ((¬ r1 = 0 → EvV K mX12_readTerm 1 50 [(0, .ref 66), (1, .int xs0)] [] G1 Q) ∧ (r1 = 0 → ((¬ xs0 = 0 → EvV K mX12_readTerm 1 50 [(0, .ref 66), (1, .int xs0)] [] G1 Q) ∧ (xs0 = 0 → EvI K mX12_isWord 0 0 [(0, .ref 66), (1, .int 4)] [] G1 (fun r2 G2 => ((¬ r2 = 0 → EvV K mX12_readTerm 1 50 [(0, .ref 66), (1, .int xs0)] [] G2 Q) ∧ (r2 = 0 → EvV K mX12_wrong 0 0 [(0, .ref 66), (1, .int 1)] [] G2 (fun G3 => EvV K mX12_readTerm 1 63 [(0, .ref 66), (1, .int xs0)] [] G3 Q)))))))))) :
    EvV K mX12_readTerm 1 22 [(0, .ref 66)] [.int xs0] G Q := by
  refine E_istore_n (lv' := [(0, .ref 66), (1, .int xs0)]) dX12_readTerm_22 rfl (by decide) rfl ?_
  refine E_aload_n 0 dX12_readTerm_23 rfl rfl rfl ?_
  refine E_cV (ci := 11) (as := []) (st := []) cm_X12_isName cV_X12_207 ⟨_, _, rfl⟩ (by decide) (lo_66 hL) rfl rfl (by decide) (Nat.le_of_ble_eq_true rfl) (Nat.le_of_ble_eq_true rfl) dX12_readTerm_24 hB (fun r G1 hr => ?_)
  obtain ⟨r1, rfl, hE1, hB⟩ := hr
  have hL1 : Lay G1.2.2 := by rw [hE1]; exact hL
  have hE1 : G1.2.2 = G.2.2 := hE1
  show Ev K mX12_readTerm 1 27 [(0, .ref 66), (1, .int xs0)] [.int r1] G1 _
  refine E_if_ne (tgt := 50) dX12_readTerm_27 (by decide) (fun c => ?_) (fun c => ?_)
  · have hB := hB.1 c
    exact EvV.tr hB hE1
  · have hB := hB.2 c
    refine E_iload_n 1 dX12_readTerm_30 rfl rfl ?_
    refine E_if_ne (tgt := 50) dX12_readTerm_31 (by decide) (fun c => ?_) (fun c => ?_)
    · have hB := hB.1 c
      exact EvV.tr hB hE1
    · have hB := hB.2 c
      refine E_aload_n 0 dX12_readTerm_34 rfl rfl rfl ?_
      refine E_iconst (v := 4) dX12_readTerm_35 (by decide) ?_
      refine E_cV (ci := 11) (as := [.int 4]) (st := []) cm_X12_isWord cV_X12_192 ⟨_, _, rfl⟩ (by decide) (lo_66 hL1) rfl rfl (by decide) (Nat.le_of_ble_eq_true rfl) (Nat.le_of_ble_eq_true rfl) dX12_readTerm_36 hB (fun r G2 hr => ?_)
      obtain ⟨r2, rfl, hE2, hB⟩ := hr
      have hL2 : Lay G2.2.2 := by rw [hE2]; exact hL1
      have hE2 : G2.2.2 = G.2.2 := hE2.trans hE1
      show Ev K mX12_readTerm 1 39 [(0, .ref 66), (1, .int xs0)] [.int r2] G2 _
      refine E_if_ne (tgt := 50) dX12_readTerm_39 (by decide) (fun c => ?_) (fun c => ?_)
      · have hB := hB.1 c
        exact EvV.tr hB hE2
      · have hB := hB.2 c
        refine E_aload_n 0 dX12_readTerm_42 rfl rfl rfl ?_
        refine E_iconst (v := 1) dX12_readTerm_43 (by decide) ?_
        refine E_cV (ci := 11) (as := [.int 1]) (st := []) cm_X12_wrong cV_X12_188 ⟨_, _, rfl⟩ (by decide) (lo_66 hL2) rfl rfl (by decide) (Nat.le_of_ble_eq_true rfl) (Nat.le_of_ble_eq_true rfl) dX12_readTerm_44 hB (fun r G3 hr => ?_)
        obtain ⟨rfl, hE3, hB⟩ := hr
        have hL3 : Lay G3.2.2 := by rw [hE3]; exact hL2
        have hE3 : G3.2.2 = G.2.2 := hE3.trans hE2
        show Ev K mX12_readTerm 1 47 [(0, .ref 66), (1, .int xs0)] [] G3 _
        refine E_goto (tgt := 63) dX12_readTerm_47 (by decide) ?_
        exact EvV.tr hB hE3

set_option maxRecDepth 20000 in
set_option maxHeartbeats 2000000 in
theorem kX12_readTerm_50 {K : KT} {G : St} {Q : St → Prop} {x1 : Int32} (hL : Lay G.2.2) 
    (hB : ((¬ (sI G 66 21) = 4 → EvV K mX12_readTerm 1 63 [(0, .ref 66), (1, .int x1)] [] G Q) ∧ ((sI G 66 21) = 4 → EvV K mX12_wrong 0 0 [(0, .ref 66), (1, .int 5)] [] G (fun G1 => EvV K mX12_readTerm 1 63 [(0, .ref 66), (1, .int x1)] [] G1 Q)))) :
    EvV K mX12_readTerm 1 50 [(0, .ref 66), (1, .int x1)] [] G Q := by
  refine E_aload_n 0 dX12_readTerm_50 rfl rfl rfl ?_
  refine E_gI (v := sI G 66 21) fG_X12_254 rfl (lo_66 hL) rfl dX12_readTerm_51 ?_
  refine E_iconst (v := 4) dX12_readTerm_54 (by decide) ?_
  refine E_icmp_ne (tgt := 63) dX12_readTerm_55 (by decide) (fun c => ?_) (fun c => ?_)
  · have hB := hB.1 c
    exact EvV.tr hB rfl
  · have hB := hB.2 c
    refine E_aload_n 0 dX12_readTerm_58 rfl rfl rfl ?_
    refine E_iconst (v := 5) dX12_readTerm_59 (by decide) ?_
    refine E_cV (ci := 11) (as := [.int 5]) (st := []) cm_X12_wrong cV_X12_188 ⟨_, _, rfl⟩ (by decide) (lo_66 hL) rfl rfl (by decide) (Nat.le_of_ble_eq_true rfl) (Nat.le_of_ble_eq_true rfl) dX12_readTerm_60 hB (fun r G1 hr => ?_)
    obtain ⟨rfl, hE1, hB⟩ := hr
    have hL1 : Lay G1.2.2 := by rw [hE1]; exact hL
    have hE1 : G1.2.2 = G.2.2 := hE1
    show Ev K mX12_readTerm 1 63 [(0, .ref 66), (1, .int x1)] [] G1 _
    exact EvV.tr hB hE1

set_option maxRecDepth 20000 in
set_option maxHeartbeats 2000000 in
theorem kX12_readTerm_63 {K : KT} {G : St} {Q : St → Prop} {x1 : Int32} (hL : Lay G.2.2) 
    (hB : (((sI G 66 8) ≤ 0 → EvI K mX12_isWord 0 0 [(0, .ref 66), (1, .int 4)] [] G (fun r1 G1 => ((r1 = 0 → EvI K mX12_isWord 0 0 [(0, .ref 66), (1, .int 5)] [] G1 (fun r2 G2 => ((r2 = 0 → EvI K mX12_isWord 0 0 [(0, .ref 66), (1, .int 6)] [] G2 (fun r3 G3 => ((r3 = 0 → EvV K mX12_readTerm 1 121 [(0, .ref 66), (1, .int x1), (2, .int (4 + (sI G 66 21)))] [.int 0, .int (4 + (sI G 66 21)), .ref 79] G3 Q) ∧ (¬ r3 = 0 → EvV K mX12_readTerm 1 121 [(0, .ref 66), (1, .int x1), (2, .int (4 + (sI G 66 21)))] [.int 3, .int (4 + (sI G 66 21)), .ref 79] G3 Q)))) ∧ (¬ r2 = 0 → EvV K mX12_readTerm 1 121 [(0, .ref 66), (1, .int x1), (2, .int (4 + (sI G 66 21)))] [.int 2, .int (4 + (sI G 66 21)), .ref 79] G2 Q)))) ∧ (¬ r1 = 0 → EvV K mX12_readTerm 1 121 [(0, .ref 66), (1, .int x1), (2, .int (4 + (sI G 66 21)))] [.int 1, .int (4 + (sI G 66 21)), .ref 79] G1 Q)))) ∧ (¬ (sI G 66 8) ≤ 0 → Q G))) :
    EvV K mX12_readTerm 1 63 [(0, .ref 66), (1, .int x1)] [] G Q := by
  refine E_aload_n 0 dX12_readTerm_63 rfl rfl rfl ?_
  refine E_gI (v := sI G 66 8) fG_X12_182 rfl (lo_66 hL) rfl dX12_readTerm_64 ?_
  refine E_if_le (tgt := 71) dX12_readTerm_67 (by decide) (fun c => ?_) (fun c => ?_)
  · have hB := hB.1 c
    refine E_iconst (v := 4) dX12_readTerm_71 (by decide) ?_
    refine E_aload_n 0 dX12_readTerm_72 rfl rfl rfl ?_
    refine E_gI (v := sI G 66 21) fG_X12_254 rfl (lo_66 hL) rfl dX12_readTerm_73 ?_
    refine E_iadd dX12_readTerm_76 ?_
    refine E_istore_n (lv' := [(0, .ref 66), (1, .int x1), (2, .int (4 + (sI G 66 21)))]) dX12_readTerm_77 rfl (by decide) rfl ?_
    refine E_aload_n 0 dX12_readTerm_78 rfl rfl rfl ?_
    refine E_gR (j := 79) fG_X12_74 rfl (lo_66 hL) (lr_66_22 hL) (by decide) dX12_readTerm_79 ?_
    refine E_iload_n 2 dX12_readTerm_82 rfl rfl ?_
    refine E_aload_n 0 dX12_readTerm_83 rfl rfl rfl ?_
    refine E_iconst (v := 4) dX12_readTerm_84 (by decide) ?_
    refine E_cV (ci := 11) (as := [.int 4]) (st := [.int (4 + (sI G 66 21)), .ref 79]) cm_X12_isWord cV_X12_192 ⟨_, _, rfl⟩ (by decide) (lo_66 hL) rfl rfl (by decide) (Nat.le_of_ble_eq_true rfl) (Nat.le_of_ble_eq_true rfl) dX12_readTerm_85 hB (fun r G1 hr => ?_)
    obtain ⟨r1, rfl, hE1, hB⟩ := hr
    have hL1 : Lay G1.2.2 := by rw [hE1]; exact hL
    have hE1 : G1.2.2 = G.2.2 := hE1
    show Ev K mX12_readTerm 1 88 [(0, .ref 66), (1, .int x1), (2, .int (4 + (sI G 66 21)))] [.int r1, .int (4 + (sI G 66 21)), .ref 79] G1 _
    refine E_if_eq (tgt := 95) dX12_readTerm_88 (by decide) (fun c => ?_) (fun c => ?_)
    · have hB := hB.1 c
      refine E_aload_n 0 dX12_readTerm_95 rfl rfl rfl ?_
      refine E_iconst (v := 5) dX12_readTerm_96 (by decide) ?_
      refine E_cV (ci := 11) (as := [.int 5]) (st := [.int (4 + (sI G 66 21)), .ref 79]) cm_X12_isWord cV_X12_192 ⟨_, _, rfl⟩ (by decide) (lo_66 hL1) rfl rfl (by decide) (Nat.le_of_ble_eq_true rfl) (Nat.le_of_ble_eq_true rfl) dX12_readTerm_97 hB (fun r G2 hr => ?_)
      obtain ⟨r2, rfl, hE2, hB⟩ := hr
      have hL2 : Lay G2.2.2 := by rw [hE2]; exact hL1
      have hE2 : G2.2.2 = G.2.2 := hE2.trans hE1
      show Ev K mX12_readTerm 1 100 [(0, .ref 66), (1, .int x1), (2, .int (4 + (sI G 66 21)))] [.int r2, .int (4 + (sI G 66 21)), .ref 79] G2 _
      refine E_if_eq (tgt := 107) dX12_readTerm_100 (by decide) (fun c => ?_) (fun c => ?_)
      · have hB := hB.1 c
        refine E_aload_n 0 dX12_readTerm_107 rfl rfl rfl ?_
        refine E_bipush (v := 6) dX12_readTerm_108 (by decide) ?_
        refine E_cV (ci := 11) (as := [.int 6]) (st := [.int (4 + (sI G 66 21)), .ref 79]) cm_X12_isWord cV_X12_192 ⟨_, _, rfl⟩ (by decide) (lo_66 hL2) rfl rfl (by decide) (Nat.le_of_ble_eq_true rfl) (Nat.le_of_ble_eq_true rfl) dX12_readTerm_110 hB (fun r G3 hr => ?_)
        obtain ⟨r3, rfl, hE3, hB⟩ := hr
        have hL3 : Lay G3.2.2 := by rw [hE3]; exact hL2
        have hE3 : G3.2.2 = G.2.2 := hE3.trans hE2
        show Ev K mX12_readTerm 1 113 [(0, .ref 66), (1, .int x1), (2, .int (4 + (sI G 66 21)))] [.int r3, .int (4 + (sI G 66 21)), .ref 79] G3 _
        refine E_if_eq (tgt := 120) dX12_readTerm_113 (by decide) (fun c => ?_) (fun c => ?_)
        · have hB := hB.1 c
          refine E_iconst (v := 0) dX12_readTerm_120 (by decide) ?_
          exact EvV.tr hB hE3
        · have hB := hB.2 c
          refine E_iconst (v := 3) dX12_readTerm_116 (by decide) ?_
          refine E_goto (tgt := 121) dX12_readTerm_117 (by decide) ?_
          exact EvV.tr hB hE3
      · have hB := hB.2 c
        refine E_iconst (v := 2) dX12_readTerm_103 (by decide) ?_
        refine E_goto (tgt := 121) dX12_readTerm_104 (by decide) ?_
        exact EvV.tr hB hE2
    · have hB := hB.2 c
      refine E_iconst (v := 1) dX12_readTerm_91 (by decide) ?_
      refine E_goto (tgt := 121) dX12_readTerm_92 (by decide) ?_
      exact EvV.tr hB hE1
  · have hB := hB.2 c
    exact E_vret rfl dX12_readTerm_70 ⟨rfl, rfl, hB⟩

set_option maxRecDepth 20000 in
set_option maxHeartbeats 2000000 in
theorem kX12_readTerm_121 {K : KT} {G : St} {Q : St → Prop} {x1 : Int32} {x2 : Int32} {xs1 : Int32} {xs2 : Int32} (hL : Lay G.2.2) 
    (hB : vp_in xs1 8 ∧ vp_in x2 8 ∧ ((¬ (sI (uI G 79 (Int32.toNatClampNeg xs1) xs2) 79 (Int32.toNatClampNeg x2)) = 0 → EvV K mX12_readTerm 1 141 [(0, .ref 66), (1, .int x1), (2, .int x2)] [.int 1, .int (sI G 66 7), .ref 66] (uI G 79 (Int32.toNatClampNeg xs1) xs2) Q) ∧ ((sI (uI G 79 (Int32.toNatClampNeg xs1) xs2) 79 (Int32.toNatClampNeg x2)) = 0 → EvV K mX12_readTerm 1 141 [(0, .ref 66), (1, .int x1), (2, .int x2)] [.int 0, .int (sI G 66 7), .ref 66] (uI G 79 (Int32.toNatClampNeg xs1) xs2) Q))) :
    EvV K mX12_readTerm 1 121 [(0, .ref 66), (1, .int x1), (2, .int x2)] [.int xs2, .int xs1, .ref 79] G Q := by
  obtain ⟨qq1, hB⟩ := hB
  refine E_sI (p := Int32.toNatClampNeg xs1) (la_79 hL) qq1 rfl dX12_readTerm_121 ?_
  refine E_aload_n 0 dX12_readTerm_122 rfl rfl rfl ?_
  refine E_dup dX12_readTerm_123 rfl ?_
  refine E_gI (v := sI G 66 7) fG_X12_179 rfl (lo_66 hL) rfl dX12_readTerm_124 ?_
  refine E_aload_n 0 dX12_readTerm_127 rfl rfl rfl ?_
  refine E_gR (j := 79) fG_X12_74 rfl (lo_66 hL) (lr_66_22 hL) (by decide) dX12_readTerm_128 ?_
  refine E_iload_n 2 dX12_readTerm_131 rfl rfl ?_
  obtain ⟨qq2, hB⟩ := hB
  refine E_aI (p := Int32.toNatClampNeg x2) (v := sI (uI G 79 (Int32.toNatClampNeg xs1) xs2) 79 (Int32.toNatClampNeg x2)) (la_79 hL) qq2 rfl rfl dX12_readTerm_132 ?_
  refine E_if_ne (tgt := 140) dX12_readTerm_133 (by decide) (fun c => ?_) (fun c => ?_)
  · have hB := hB.1 c
    refine E_iconst (v := 1) dX12_readTerm_140 (by decide) ?_
    exact EvV.tr hB rfl
  · have hB := hB.2 c
    refine E_iconst (v := 0) dX12_readTerm_136 (by decide) ?_
    refine E_goto (tgt := 141) dX12_readTerm_137 (by decide) ?_
    exact EvV.tr hB rfl

set_option maxRecDepth 20000 in
set_option maxHeartbeats 2000000 in
theorem kX12_readTerm_141 {K : KT} {G : St} {Q : St → Prop} {x1 : Int32} {x2 : Int32} {xs1 : Int32} {xs2 : Int32} (hL : Lay G.2.2) 
    (hB : ((x1 = 0 → EvI K mX12_isName 0 0 [(0, .ref 66)] [] (uI G 66 7 (xs1 + xs2)) (fun r1 G1 => ((¬ r1 = 0 → EvV K mX12_readTerm 1 177 [(0, .ref 66), (2, .int x2)] [] G1 Q) ∧ (r1 = 0 → EvV K mX12_readTerm 1 172 [(0, .ref 66), (2, .int x2)] [] G1 Q)))) ∧ (¬ x1 = 0 → vp_in (xs1 + xs2) 1002 ∧ (((sI G 68 (Int32.toNatClampNeg (xs1 + xs2))) = 2 → EvV K mX12_readTerm 1 177 [(0, .ref 66), (2, .int x2)] [] (uI G 66 7 (xs1 + xs2)) Q) ∧ (¬ (sI G 68 (Int32.toNatClampNeg (xs1 + xs2))) = 2 → EvV K mX12_readTerm 1 172 [(0, .ref 66), (2, .int x2)] [] (uI G 66 7 (xs1 + xs2)) Q))))) :
    EvV K mX12_readTerm 1 141 [(0, .ref 66), (1, .int x1), (2, .int x2)] [.int xs2, .int xs1, .ref 66] G Q := by
  refine E_iadd dX12_readTerm_141 ?_
  refine E_pI fP_X12_179 rfl (lo_66 hL) dX12_readTerm_142 ?_
  refine E_iload_n 1 dX12_readTerm_145 rfl rfl ?_
  refine E_if_eq (tgt := 165) dX12_readTerm_146 (by decide) (fun c => ?_) (fun c => ?_)
  · have hB := hB.1 c
    refine E_aload_n 0 dX12_readTerm_165 rfl rfl rfl ?_
    refine E_cV (ci := 11) (as := []) (st := []) cm_X12_isName cV_X12_207 ⟨_, _, rfl⟩ (by decide) (lo_66 hL) rfl rfl (by decide) (Nat.le_of_ble_eq_true rfl) (Nat.le_of_ble_eq_true rfl) dX12_readTerm_166 hB (fun r G1 hr => ?_)
    obtain ⟨r1, rfl, hE1, hB⟩ := hr
    have hL1 : Lay G1.2.2 := by rw [hE1]; exact hL
    have hE1 : G1.2.2 = G.2.2 := hE1
    show Ev K mX12_readTerm 1 169 [(0, .ref 66), (1, .int x1), (2, .int x2)] [.int r1] G1 _
    refine E_if_ne (tgt := 177) dX12_readTerm_169 (by decide) (fun c => ?_) (fun c => ?_)
    · have hB := hB.1 c
      refine E_sub (lv' := [(0, .ref 66), (2, .int x2)]) [0, 2] rfl ?_
      exact EvV.tr hB hE1
    · have hB := hB.2 c
      refine E_sub (lv' := [(0, .ref 66), (2, .int x2)]) [0, 2] rfl ?_
      exact EvV.tr hB hE1
  · have hB := hB.2 c
    refine E_aload_n 0 dX12_readTerm_149 rfl rfl rfl ?_
    refine E_gR (j := 68) fG_X12_24 rfl (lo_66 hL) (lr_66_4 hL) (by decide) dX12_readTerm_150 ?_
    refine E_aload_n 0 dX12_readTerm_153 rfl rfl rfl ?_
    refine E_gI (v := xs1 + xs2) fG_X12_179 rfl (lo_66 hL) rfl dX12_readTerm_154 ?_
    obtain ⟨qq2, hB⟩ := hB
    refine E_aI (p := Int32.toNatClampNeg (xs1 + xs2)) (v := sI G 68 (Int32.toNatClampNeg (xs1 + xs2))) (la_68 hL) qq2 rfl rfl dX12_readTerm_157 ?_
    refine E_iconst (v := 2) dX12_readTerm_158 (by decide) ?_
    refine E_icmp_eq (tgt := 177) dX12_readTerm_159 (by decide) (fun c => ?_) (fun c => ?_)
    · have hB := hB.1 c
      refine E_sub (lv' := [(0, .ref 66), (2, .int x2)]) [0, 2] rfl ?_
      exact EvV.tr hB rfl
    · have hB := hB.2 c
      refine E_goto (tgt := 172) dX12_readTerm_162 (by decide) ?_
      refine E_sub (lv' := [(0, .ref 66), (2, .int x2)]) [0, 2] rfl ?_
      exact EvV.tr hB rfl

set_option maxRecDepth 20000 in
set_option maxHeartbeats 2000000 in
theorem kX12_readTerm_172 {K : KT} {G : St} {Q : St → Prop} {x2 : Int32} (hL : Lay G.2.2) 
    (hB : EvV K mX12_wrong 0 0 [(0, .ref 66), (1, .int 1)] [] G (fun G1 => EvV K mX12_readTerm 1 177 [(0, .ref 66), (2, .int x2)] [] G1 Q)) :
    EvV K mX12_readTerm 1 172 [(0, .ref 66), (2, .int x2)] [] G Q := by
  refine E_aload_n 0 dX12_readTerm_172 rfl rfl rfl ?_
  refine E_iconst (v := 1) dX12_readTerm_173 (by decide) ?_
  refine E_cV (ci := 11) (as := [.int 1]) (st := []) cm_X12_wrong cV_X12_188 ⟨_, _, rfl⟩ (by decide) (lo_66 hL) rfl rfl (by decide) (Nat.le_of_ble_eq_true rfl) (Nat.le_of_ble_eq_true rfl) dX12_readTerm_174 hB (fun r G1 hr => ?_)
  obtain ⟨rfl, hE1, hB⟩ := hr
  have hL1 : Lay G1.2.2 := by rw [hE1]; exact hL
  have hE1 : G1.2.2 = G.2.2 := hE1
  show Ev K mX12_readTerm 1 177 [(0, .ref 66), (2, .int x2)] [] G1 _
  exact EvV.tr hB hE1

set_option maxRecDepth 20000 in
set_option maxHeartbeats 2000000 in
theorem kX12_readTerm_177 {K : KT} {G : St} {Q : St → Prop} {x2 : Int32} (hL : Lay G.2.2) 
    (hB : (((sI G 66 8) ≤ 0 → vp_in (sI G 66 7) 1002 ∧ vp_in x2 8 ∧ Q (uI (uI (uL G 80 (Int32.toNatClampNeg x2) (sL G 70 (Int32.toNatClampNeg (sI G 66 7)))) 66 7 ((sI G 66 7) + 1)) 66 21 ((sI G 66 21) + 1))) ∧ (¬ (sI G 66 8) ≤ 0 → Q G))) :
    EvV K mX12_readTerm 1 177 [(0, .ref 66), (2, .int x2)] [] G Q := by
  refine E_aload_n 0 dX12_readTerm_177 rfl rfl rfl ?_
  refine E_gI (v := sI G 66 8) fG_X12_182 rfl (lo_66 hL) rfl dX12_readTerm_178 ?_
  refine E_if_le (tgt := 185) dX12_readTerm_181 (by decide) (fun c => ?_) (fun c => ?_)
  · have hB := hB.1 c
    refine E_aload_n 0 dX12_readTerm_185 rfl rfl rfl ?_
    refine E_gR (j := 80) fG_X12_77 rfl (lo_66 hL) (lr_66_23 hL) (by decide) dX12_readTerm_186 ?_
    refine E_iload_n 1 dX12_readTerm_189 rfl rfl ?_
    refine E_aload_n 0 dX12_readTerm_190 rfl rfl rfl ?_
    refine E_gR (j := 70) fG_X12_30 rfl (lo_66 hL) (lr_66_6 hL) (by decide) dX12_readTerm_191 ?_
    refine E_aload_n 0 dX12_readTerm_194 rfl rfl rfl ?_
    refine E_gI (v := sI G 66 7) fG_X12_179 rfl (lo_66 hL) rfl dX12_readTerm_195 ?_
    obtain ⟨qq1, hB⟩ := hB
    refine E_aL (p := Int32.toNatClampNeg (sI G 66 7)) (v := sL G 70 (Int32.toNatClampNeg (sI G 66 7))) (la_70 hL) qq1 rfl rfl dX12_readTerm_198 ?_
    obtain ⟨qq2, hB⟩ := hB
    refine E_sL (p := Int32.toNatClampNeg x2) (la_80 hL) qq2 rfl dX12_readTerm_199 ?_
    refine E_aload_n 0 dX12_readTerm_200 rfl rfl rfl ?_
    refine E_dup dX12_readTerm_201 rfl ?_
    refine E_gI (v := sI G 66 7) fG_X12_179 rfl (lo_66 hL) rfl dX12_readTerm_202 ?_
    refine E_iconst (v := 1) dX12_readTerm_205 (by decide) ?_
    refine E_iadd dX12_readTerm_206 ?_
    refine E_pI fP_X12_179 rfl (lo_66 hL) dX12_readTerm_207 ?_
    refine E_aload_n 0 dX12_readTerm_210 rfl rfl rfl ?_
    refine E_dup dX12_readTerm_211 rfl ?_
    refine E_gI (v := sI G 66 21) fG_X12_254 rfl (lo_66 hL) rfl dX12_readTerm_212 ?_
    refine E_iconst (v := 1) dX12_readTerm_215 (by decide) ?_
    refine E_iadd dX12_readTerm_216 ?_
    refine E_pI fP_X12_254 rfl (lo_66 hL) dX12_readTerm_217 ?_
    exact E_vret rfl dX12_readTerm_220 ⟨rfl, rfl, hB⟩
  · have hB := hB.2 c
    exact E_vret rfl dX12_readTerm_184 ⟨rfl, rfl, hB⟩

set_option maxRecDepth 20000 in
set_option maxHeartbeats 2000000 in
theorem kX12_ask_0 {K : KT} {G : St} {Q : Int32 → St → Prop}  (hL : Lay G.2.2) 
    (hB : EvV K mX12_cutAll 1 0 [(0, .ref 66)] [] (uI G 66 0 0) (fun G1 => EvV K mX12_readTerm 1 0 [(0, .ref 66)] [] (uI G1 66 21 0) (fun G2 => EvI K mX12_ask 2 18 [(0, .ref 66)] [] G2 Q))) :
    EvI K mX12_ask 2 0 [(0, .ref 66)] [] G Q := by
  refine E_aload_n 0 dX12_ask_0 rfl rfl rfl ?_
  refine E_iconst (v := 0) dX12_ask_1 (by decide) ?_
  refine E_pI fP_X12_1 rfl (lo_66 hL) dX12_ask_2 ?_
  refine E_aload_n 0 dX12_ask_5 rfl rfl rfl ?_
  refine E_cV (ci := 11) (as := []) (st := []) cm_X12_cutAll cV_X12_198 ⟨_, _, rfl⟩ (by decide) (lo_66 hL) rfl rfl (by decide) (Nat.le_of_ble_eq_true rfl) (Nat.le_of_ble_eq_true rfl) dX12_ask_6 hB (fun r G1 hr => ?_)
  obtain ⟨rfl, hE1, hB⟩ := hr
  have hL1 : Lay G1.2.2 := by rw [hE1]; exact hL
  have hE1 : G1.2.2 = G.2.2 := hE1
  show Ev K mX12_ask 2 9 [(0, .ref 66)] [] G1 _
  refine E_aload_n 0 dX12_ask_9 rfl rfl rfl ?_
  refine E_iconst (v := 0) dX12_ask_10 (by decide) ?_
  refine E_pI fP_X12_254 rfl (lo_66 hL1) dX12_ask_11 ?_
  refine E_aload_n 0 dX12_ask_14 rfl rfl rfl ?_
  refine E_cV (ci := 11) (as := []) (st := []) cm_X12_readTerm cV_X12_257 ⟨_, _, rfl⟩ (by decide) (lo_66 hL1) rfl rfl (by decide) (Nat.le_of_ble_eq_true rfl) (Nat.le_of_ble_eq_true rfl) dX12_ask_15 hB (fun r G2 hr => ?_)
  obtain ⟨rfl, hE2, hB⟩ := hr
  have hL2 : Lay G2.2.2 := by rw [hE2]; exact hL1
  have hE2 : G2.2.2 = G.2.2 := hE2.trans hE1
  show Ev K mX12_ask 2 18 [(0, .ref 66)] [] G2 _
  exact EvI.tr hB hE2

set_option maxRecDepth 20000 in
set_option maxHeartbeats 2000000 in
theorem kX12_ask_18 {K : KT} {G : St} {Q : Int32 → St → Prop}  (hL : Lay G.2.2) 
    (hB : ((¬ (sI G 66 8) = 0 → EvI K mX12_ask 2 44 [(0, .ref 66)] [] G Q) ∧ ((sI G 66 8) = 0 → vp_in (sI G 66 7) 1002 ∧ (((sI G 68 (Int32.toNatClampNeg (sI G 66 7))) = 0 → EvI K mX12_ask 2 44 [(0, .ref 66)] [] G Q) ∧ (¬ (sI G 68 (Int32.toNatClampNeg (sI G 66 7))) = 0 → EvV K mX12_readTerm 1 0 [(0, .ref 66)] [] G (fun G2 => EvI K mX12_ask 2 18 [(0, .ref 66)] [] G2 Q)))))) :
    EvI K mX12_ask 2 18 [(0, .ref 66)] [] G Q := by
  refine E_aload_n 0 dX12_ask_18 rfl rfl rfl ?_
  refine E_gI (v := sI G 66 8) fG_X12_182 rfl (lo_66 hL) rfl dX12_ask_19 ?_
  refine E_if_ne (tgt := 44) dX12_ask_22 (by decide) (fun c => ?_) (fun c => ?_)
  · have hB := hB.1 c
    exact EvI.tr hB rfl
  · have hB := hB.2 c
    refine E_aload_n 0 dX12_ask_25 rfl rfl rfl ?_
    refine E_gR (j := 68) fG_X12_24 rfl (lo_66 hL) (lr_66_4 hL) (by decide) dX12_ask_26 ?_
    refine E_aload_n 0 dX12_ask_29 rfl rfl rfl ?_
    refine E_gI (v := sI G 66 7) fG_X12_179 rfl (lo_66 hL) rfl dX12_ask_30 ?_
    obtain ⟨qq1, hB⟩ := hB
    refine E_aI (p := Int32.toNatClampNeg (sI G 66 7)) (v := sI G 68 (Int32.toNatClampNeg (sI G 66 7))) (la_68 hL) qq1 rfl rfl dX12_ask_33 ?_
    refine E_if_eq (tgt := 44) dX12_ask_34 (by decide) (fun c => ?_) (fun c => ?_)
    · have hB := hB.1 c
      exact EvI.tr hB rfl
    · have hB := hB.2 c
      refine E_aload_n 0 dX12_ask_37 rfl rfl rfl ?_
      refine E_cV (ci := 11) (as := []) (st := []) cm_X12_readTerm cV_X12_257 ⟨_, _, rfl⟩ (by decide) (lo_66 hL) rfl rfl (by decide) (Nat.le_of_ble_eq_true rfl) (Nat.le_of_ble_eq_true rfl) dX12_ask_38 hB (fun r G2 hr => ?_)
      obtain ⟨rfl, hE2, hB⟩ := hr
      have hL2 : Lay G2.2.2 := by rw [hE2]; exact hL
      have hE2 : G2.2.2 = G.2.2 := hE2
      show Ev K mX12_ask 2 41 [(0, .ref 66)] [] G2 _
      refine E_goto (tgt := 18) dX12_ask_41 (by decide) ?_
      exact EvI.tr hB hE2

set_option maxRecDepth 20000 in
set_option maxHeartbeats 2000000 in
theorem kX12_ask_44 {K : KT} {G : St} {Q : Int32 → St → Prop}  (hL : Lay G.2.2) 
    (hB : ((¬ (sI G 66 8) = 0 → Q (sI G 66 8) G) ∧ ((sI G 66 8) = 0 → EvI K mX12_ask 2 61 [(0, .ref 66), (1, .int 0)] [] (uI G 66 20 (sI G 66 21)) Q))) :
    EvI K mX12_ask 2 44 [(0, .ref 66)] [] G Q := by
  refine E_aload_n 0 dX12_ask_44 rfl rfl rfl ?_
  refine E_gI (v := sI G 66 8) fG_X12_182 rfl (lo_66 hL) rfl dX12_ask_45 ?_
  refine E_if_ne (tgt := 105) dX12_ask_48 (by decide) (fun c => ?_) (fun c => ?_)
  · have hB := hB.1 c
    refine E_aload_n 0 dX12_ask_105 rfl rfl rfl ?_
    refine E_gI (v := sI G 66 8) fG_X12_182 rfl (lo_66 hL) rfl dX12_ask_106 ?_
    exact E_iret rfl dX12_ask_109 ⟨_, rfl, rfl, hB⟩
  · have hB := hB.2 c
    refine E_aload_n 0 dX12_ask_51 rfl rfl rfl ?_
    refine E_aload_n 0 dX12_ask_52 rfl rfl rfl ?_
    refine E_gI (v := sI G 66 21) fG_X12_254 rfl (lo_66 hL) rfl dX12_ask_53 ?_
    refine E_pI fP_X12_226 rfl (lo_66 hL) dX12_ask_56 ?_
    refine E_iconst (v := 0) dX12_ask_59 (by decide) ?_
    refine E_istore_n (lv' := [(0, .ref 66), (1, .int 0)]) dX12_ask_60 rfl (by decide) rfl ?_
    exact EvI.tr hB rfl

set_option maxRecDepth 20000 in
set_option maxHeartbeats 2000000 in
theorem kX12_ask_61 {K : KT} {G : St} {Q : Int32 → St → Prop} {x1 : Int32} (hL : Lay G.2.2) 
    (hB : ((4 ≤ x1 → Q (sI G 66 8) (uI G 66 15 1)) ∧ (¬ 4 ≤ x1 → vp_in (4 + x1) 8 ∧ vp_in x1 8 ∧ vp_in (4 + x1) 8 ∧ vp_in x1 8 ∧ EvI K mX12_ask 2 61 [(0, .ref 66), (1, .int (x1 + 1))] [] (uL (uI G 79 (Int32.toNatClampNeg x1) (sI G 79 (Int32.toNatClampNeg (4 + x1)))) 80 (Int32.toNatClampNeg x1) (sL G 80 (Int32.toNatClampNeg (4 + x1)))) Q))) :
    EvI K mX12_ask 2 61 [(0, .ref 66), (1, .int x1)] [] G Q := by
  refine E_iload_n 1 dX12_ask_61 rfl rfl ?_
  refine E_iconst (v := 4) dX12_ask_62 (by decide) ?_
  refine E_icmp_ge (tgt := 100) dX12_ask_63 (by decide) (fun c => ?_) (fun c => ?_)
  · have hB := hB.1 c
    refine E_aload_n 0 dX12_ask_100 rfl rfl rfl ?_
    refine E_iconst (v := 1) dX12_ask_101 (by decide) ?_
    refine E_pZ fP_X12_152 rfl (lo_66 hL) (Or.inr rfl) dX12_ask_102 ?_
    refine E_aload_n 0 dX12_ask_105 rfl rfl rfl ?_
    refine E_gI (v := sI G 66 8) fG_X12_182 rfl (lo_66 hL) rfl dX12_ask_106 ?_
    exact E_iret rfl dX12_ask_109 ⟨_, rfl, rfl, hB⟩
  · have hB := hB.2 c
    refine E_aload_n 0 dX12_ask_66 rfl rfl rfl ?_
    refine E_gR (j := 79) fG_X12_74 rfl (lo_66 hL) (lr_66_22 hL) (by decide) dX12_ask_67 ?_
    refine E_iload_n 1 dX12_ask_70 rfl rfl ?_
    refine E_aload_n 0 dX12_ask_71 rfl rfl rfl ?_
    refine E_gR (j := 79) fG_X12_74 rfl (lo_66 hL) (lr_66_22 hL) (by decide) dX12_ask_72 ?_
    refine E_iconst (v := 4) dX12_ask_75 (by decide) ?_
    refine E_iload_n 1 dX12_ask_76 rfl rfl ?_
    refine E_iadd dX12_ask_77 ?_
    obtain ⟨qq1, hB⟩ := hB
    refine E_aI (p := Int32.toNatClampNeg (4 + x1)) (v := sI G 79 (Int32.toNatClampNeg (4 + x1))) (la_79 hL) qq1 rfl rfl dX12_ask_78 ?_
    obtain ⟨qq2, hB⟩ := hB
    refine E_sI (p := Int32.toNatClampNeg x1) (la_79 hL) qq2 rfl dX12_ask_79 ?_
    refine E_aload_n 0 dX12_ask_80 rfl rfl rfl ?_
    refine E_gR (j := 80) fG_X12_77 rfl (lo_66 hL) (lr_66_23 hL) (by decide) dX12_ask_81 ?_
    refine E_iload_n 1 dX12_ask_84 rfl rfl ?_
    refine E_aload_n 0 dX12_ask_85 rfl rfl rfl ?_
    refine E_gR (j := 80) fG_X12_77 rfl (lo_66 hL) (lr_66_23 hL) (by decide) dX12_ask_86 ?_
    refine E_iconst (v := 4) dX12_ask_89 (by decide) ?_
    refine E_iload_n 1 dX12_ask_90 rfl rfl ?_
    refine E_iadd dX12_ask_91 ?_
    obtain ⟨qq3, hB⟩ := hB
    refine E_aL (p := Int32.toNatClampNeg (4 + x1)) (v := sL G 80 (Int32.toNatClampNeg (4 + x1))) (la_80 hL) qq3 rfl rfl dX12_ask_92 ?_
    obtain ⟨qq4, hB⟩ := hB
    refine E_sL (p := Int32.toNatClampNeg x1) (la_80 hL) qq4 rfl dX12_ask_93 ?_
    refine E_iinc (v := x1 + 1) (lv' := [(0, .ref 66), (1, .int (x1 + 1))]) 1 dX12_ask_94 rfl rfl (by decide) rfl ?_
    refine E_goto (tgt := 61) dX12_ask_97 (by decide) ?_
    exact EvI.tr hB rfl

set_option maxRecDepth 20000 in
set_option maxHeartbeats 2000000 in
theorem kX12_readOfTerm_0 {K : KT} {G : St} {Q : St → Prop}  (hL : Lay G.2.2) 
    (hB : EvV K mX12_readTerm 1 0 [(0, .ref 66)] [] G (fun G1 => EvV K mX12_takeWord 2 0 [(0, .ref 66), (1, .int 7)] [] G1 (fun G2 => EvI K mX12_isName 0 0 [(0, .ref 66)] [] G2 (fun r3 G3 => ((r3 = 0 → EvV K mX12_readOfTerm 3 26 [(0, .ref 66)] [.int (-1)] G3 Q) ∧ (¬ r3 = 0 → EvI K mX12_findTable 0 0 [(0, .ref 66), (1, .int 0)] [] G3 (fun r4 G4 => EvV K mX12_readOfTerm 3 26 [(0, .ref 66)] [.int r4] G4 Q))))))) :
    EvV K mX12_readOfTerm 3 0 [(0, .ref 66)] [] G Q := by
  refine E_aload_n 0 dX12_readOfTerm_0 rfl rfl rfl ?_
  refine E_cV (ci := 11) (as := []) (st := []) cm_X12_readTerm cV_X12_257 ⟨_, _, rfl⟩ (by decide) (lo_66 hL) rfl rfl (by decide) (Nat.le_of_ble_eq_true rfl) (Nat.le_of_ble_eq_true rfl) dX12_readOfTerm_1 hB (fun r G1 hr => ?_)
  obtain ⟨rfl, hE1, hB⟩ := hr
  have hL1 : Lay G1.2.2 := by rw [hE1]; exact hL
  have hE1 : G1.2.2 = G.2.2 := hE1
  show Ev K mX12_readOfTerm 3 4 [(0, .ref 66)] [] G1 _
  refine E_aload_n 0 dX12_readOfTerm_4 rfl rfl rfl ?_
  refine E_bipush (v := 7) dX12_readOfTerm_5 (by decide) ?_
  refine E_cV (ci := 11) (as := [.int 7]) (st := []) cm_X12_takeWord cV_X12_268 ⟨_, _, rfl⟩ (by decide) (lo_66 hL1) rfl rfl (by decide) (Nat.le_of_ble_eq_true rfl) (Nat.le_of_ble_eq_true rfl) dX12_readOfTerm_7 hB (fun r G2 hr => ?_)
  obtain ⟨rfl, hE2, hB⟩ := hr
  have hL2 : Lay G2.2.2 := by rw [hE2]; exact hL1
  have hE2 : G2.2.2 = G.2.2 := hE2.trans hE1
  show Ev K mX12_readOfTerm 3 10 [(0, .ref 66)] [] G2 _
  refine E_aload_n 0 dX12_readOfTerm_10 rfl rfl rfl ?_
  refine E_cV (ci := 11) (as := []) (st := []) cm_X12_isName cV_X12_207 ⟨_, _, rfl⟩ (by decide) (lo_66 hL2) rfl rfl (by decide) (Nat.le_of_ble_eq_true rfl) (Nat.le_of_ble_eq_true rfl) dX12_readOfTerm_11 hB (fun r G3 hr => ?_)
  obtain ⟨r3, rfl, hE3, hB⟩ := hr
  have hL3 : Lay G3.2.2 := by rw [hE3]; exact hL2
  have hE3 : G3.2.2 = G.2.2 := hE3.trans hE2
  show Ev K mX12_readOfTerm 3 14 [(0, .ref 66)] [.int r3] G3 _
  refine E_if_eq (tgt := 25) dX12_readOfTerm_14 (by decide) (fun c => ?_) (fun c => ?_)
  · have hB := hB.1 c
    refine E_iconst (v := (-1)) dX12_readOfTerm_25 (by decide) ?_
    exact EvV.tr hB hE3
  · have hB := hB.2 c
    refine E_aload_n 0 dX12_readOfTerm_17 rfl rfl rfl ?_
    refine E_iconst (v := 0) dX12_readOfTerm_18 (by decide) ?_
    refine E_cV (ci := 11) (as := [.int 0]) (st := []) cm_X12_findTable cV_X12_211 ⟨_, _, rfl⟩ (by decide) (lo_66 hL3) rfl rfl (by decide) (Nat.le_of_ble_eq_true rfl) (Nat.le_of_ble_eq_true rfl) dX12_readOfTerm_19 hB (fun r G4 hr => ?_)
    obtain ⟨r4, rfl, hE4, hB⟩ := hr
    have hL4 : Lay G4.2.2 := by rw [hE4]; exact hL3
    have hE4 : G4.2.2 = G.2.2 := hE4.trans hE3
    show Ev K mX12_readOfTerm 3 22 [(0, .ref 66)] [.int r4] G4 _
    refine E_goto (tgt := 26) dX12_readOfTerm_22 (by decide) ?_
    exact EvV.tr hB hE4

set_option maxRecDepth 20000 in
set_option maxHeartbeats 2000000 in
theorem kX12_readOfTerm_26 {K : KT} {G : St} {Q : St → Prop} {xs0 : Int32} (hL : Lay G.2.2) 
    (hB : ((¬ (sI G 66 8) = 0 → EvV K mX12_readOfTerm 3 49 [(0, .ref 66), (1, .int xs0)] [] G Q) ∧ ((sI G 66 8) = 0 → EvI K mX12_isName 0 0 [(0, .ref 66)] [] G (fun r1 G1 => ((¬ r1 = 0 → EvV K mX12_readOfTerm 3 49 [(0, .ref 66), (1, .int xs0)] [] G1 Q) ∧ (r1 = 0 → EvV K mX12_wrong 0 0 [(0, .ref 66), (1, .int 1)] [] G1 (fun G2 => EvV K mX12_readOfTerm 3 65 [(0, .ref 66), (1, .int xs0)] [] G2 Q))))))) :
    EvV K mX12_readOfTerm 3 26 [(0, .ref 66)] [.int xs0] G Q := by
  refine E_istore_n (lv' := [(0, .ref 66), (1, .int xs0)]) dX12_readOfTerm_26 rfl (by decide) rfl ?_
  refine E_aload_n 0 dX12_readOfTerm_27 rfl rfl rfl ?_
  refine E_gI (v := sI G 66 8) fG_X12_182 rfl (lo_66 hL) rfl dX12_readOfTerm_28 ?_
  refine E_if_ne (tgt := 49) dX12_readOfTerm_31 (by decide) (fun c => ?_) (fun c => ?_)
  · have hB := hB.1 c
    exact EvV.tr hB rfl
  · have hB := hB.2 c
    refine E_aload_n 0 dX12_readOfTerm_34 rfl rfl rfl ?_
    refine E_cV (ci := 11) (as := []) (st := []) cm_X12_isName cV_X12_207 ⟨_, _, rfl⟩ (by decide) (lo_66 hL) rfl rfl (by decide) (Nat.le_of_ble_eq_true rfl) (Nat.le_of_ble_eq_true rfl) dX12_readOfTerm_35 hB (fun r G1 hr => ?_)
    obtain ⟨r1, rfl, hE1, hB⟩ := hr
    have hL1 : Lay G1.2.2 := by rw [hE1]; exact hL
    have hE1 : G1.2.2 = G.2.2 := hE1
    show Ev K mX12_readOfTerm 3 38 [(0, .ref 66), (1, .int xs0)] [.int r1] G1 _
    refine E_if_ne (tgt := 49) dX12_readOfTerm_38 (by decide) (fun c => ?_) (fun c => ?_)
    · have hB := hB.1 c
      exact EvV.tr hB hE1
    · have hB := hB.2 c
      refine E_aload_n 0 dX12_readOfTerm_41 rfl rfl rfl ?_
      refine E_iconst (v := 1) dX12_readOfTerm_42 (by decide) ?_
      refine E_cV (ci := 11) (as := [.int 1]) (st := []) cm_X12_wrong cV_X12_188 ⟨_, _, rfl⟩ (by decide) (lo_66 hL1) rfl rfl (by decide) (Nat.le_of_ble_eq_true rfl) (Nat.le_of_ble_eq_true rfl) dX12_readOfTerm_43 hB (fun r G2 hr => ?_)
      obtain ⟨rfl, hE2, hB⟩ := hr
      have hL2 : Lay G2.2.2 := by rw [hE2]; exact hL1
      have hE2 : G2.2.2 = G.2.2 := hE2.trans hE1
      show Ev K mX12_readOfTerm 3 46 [(0, .ref 66), (1, .int xs0)] [] G2 _
      refine E_goto (tgt := 65) dX12_readOfTerm_46 (by decide) ?_
      exact EvV.tr hB hE2

set_option maxRecDepth 20000 in
set_option maxHeartbeats 2000000 in
theorem kX12_readOfTerm_49 {K : KT} {G : St} {Q : St → Prop} {x1 : Int32} (hL : Lay G.2.2) 
    (hB : ((¬ (sI G 66 8) = 0 → EvV K mX12_readOfTerm 3 65 [(0, .ref 66), (1, .int x1)] [] G Q) ∧ ((sI G 66 8) = 0 → ((0 ≤ x1 → EvV K mX12_readOfTerm 3 65 [(0, .ref 66), (1, .int x1)] [] G Q) ∧ (¬ 0 ≤ x1 → EvV K mX12_wrong 0 0 [(0, .ref 66), (1, .int 2)] [] G (fun G1 => EvV K mX12_readOfTerm 3 65 [(0, .ref 66), (1, .int x1)] [] G1 Q)))))) :
    EvV K mX12_readOfTerm 3 49 [(0, .ref 66), (1, .int x1)] [] G Q := by
  refine E_aload_n 0 dX12_readOfTerm_49 rfl rfl rfl ?_
  refine E_gI (v := sI G 66 8) fG_X12_182 rfl (lo_66 hL) rfl dX12_readOfTerm_50 ?_
  refine E_if_ne (tgt := 65) dX12_readOfTerm_53 (by decide) (fun c => ?_) (fun c => ?_)
  · have hB := hB.1 c
    exact EvV.tr hB rfl
  · have hB := hB.2 c
    refine E_iload_n 1 dX12_readOfTerm_56 rfl rfl ?_
    refine E_if_ge (tgt := 65) dX12_readOfTerm_57 (by decide) (fun c => ?_) (fun c => ?_)
    · have hB := hB.1 c
      exact EvV.tr hB rfl
    · have hB := hB.2 c
      refine E_aload_n 0 dX12_readOfTerm_60 rfl rfl rfl ?_
      refine E_iconst (v := 2) dX12_readOfTerm_61 (by decide) ?_
      refine E_cV (ci := 11) (as := [.int 2]) (st := []) cm_X12_wrong cV_X12_188 ⟨_, _, rfl⟩ (by decide) (lo_66 hL) rfl rfl (by decide) (Nat.le_of_ble_eq_true rfl) (Nat.le_of_ble_eq_true rfl) dX12_readOfTerm_62 hB (fun r G1 hr => ?_)
      obtain ⟨rfl, hE1, hB⟩ := hr
      have hL1 : Lay G1.2.2 := by rw [hE1]; exact hL
      have hE1 : G1.2.2 = G.2.2 := hE1
      show Ev K mX12_readOfTerm 3 65 [(0, .ref 66), (1, .int x1)] [] G1 _
      exact EvV.tr hB hE1

set_option maxRecDepth 20000 in
set_option maxHeartbeats 2000000 in
theorem kX12_readOfTerm_65 {K : KT} {G : St} {Q : St → Prop} {x1 : Int32} (hL : Lay G.2.2) 
    (hB : ((¬ (sI G 66 8) = 0 → Q G) ∧ ((sI G 66 8) = 0 → vp_in ((sI G 66 21) - 1) 5 ∧ Q (uI (uI G 82 (Int32.toNatClampNeg ((sI G 66 21) - 1)) x1) 66 7 ((sI G 66 7) + 1))))) :
    EvV K mX12_readOfTerm 3 65 [(0, .ref 66), (1, .int x1)] [] G Q := by
  refine E_aload_n 0 dX12_readOfTerm_65 rfl rfl rfl ?_
  refine E_gI (v := sI G 66 8) fG_X12_182 rfl (lo_66 hL) rfl dX12_readOfTerm_66 ?_
  refine E_if_ne (tgt := 94) dX12_readOfTerm_69 (by decide) (fun c => ?_) (fun c => ?_)
  · have hB := hB.1 c
    exact E_vret rfl dX12_readOfTerm_94 ⟨rfl, rfl, hB⟩
  · have hB := hB.2 c
    refine E_aload_n 0 dX12_readOfTerm_72 rfl rfl rfl ?_
    refine E_gR (j := 82) fG_X12_83 rfl (lo_66 hL) (lr_66_25 hL) (by decide) dX12_readOfTerm_73 ?_
    refine E_aload_n 0 dX12_readOfTerm_76 rfl rfl rfl ?_
    refine E_gI (v := sI G 66 21) fG_X12_254 rfl (lo_66 hL) rfl dX12_readOfTerm_77 ?_
    refine E_iconst (v := 1) dX12_readOfTerm_80 (by decide) ?_
    refine E_isub dX12_readOfTerm_81 ?_
    refine E_iload_n 1 dX12_readOfTerm_82 rfl rfl ?_
    obtain ⟨qq1, hB⟩ := hB
    refine E_sI (p := Int32.toNatClampNeg ((sI G 66 21) - 1)) (la_82 hL) qq1 rfl dX12_readOfTerm_83 ?_
    refine E_aload_n 0 dX12_readOfTerm_84 rfl rfl rfl ?_
    refine E_dup dX12_readOfTerm_85 rfl ?_
    refine E_gI (v := sI G 66 7) fG_X12_179 rfl (lo_66 hL) rfl dX12_readOfTerm_86 ?_
    refine E_iconst (v := 1) dX12_readOfTerm_89 (by decide) ?_
    refine E_iadd dX12_readOfTerm_90 ?_
    refine E_pI fP_X12_179 rfl (lo_66 hL) dX12_readOfTerm_91 ?_
    exact E_vret rfl dX12_readOfTerm_94 ⟨rfl, rfl, hB⟩

set_option maxRecDepth 20000 in
set_option maxHeartbeats 2000000 in
theorem kX12_isRow_0 {K : KT} {G : St} {Q : Int32 → St → Prop} {x1 : Int32} (hL : Lay G.2.2) 
    (hB : ((x1 < 0 → Q 0 G) ∧ (¬ x1 < 0 → (((sI G 66 16) ≤ x1 → Q 0 G) ∧ (¬ (sI G 66 16) ≤ x1 → Q 1 G))))) :
    EvI K mX12_isRow 0 0 [(0, .ref 66), (1, .int x1)] [] G Q := by
  refine E_iload_n 1 dX12_isRow_0 rfl rfl ?_
  refine E_if_lt (tgt := 16) dX12_isRow_1 (by decide) (fun c => ?_) (fun c => ?_)
  · have hB := hB.1 c
    refine E_iconst (v := 0) dX12_isRow_16 (by decide) ?_
    exact E_zret rfl (Or.inl rfl) dX12_isRow_17 ⟨_, rfl, rfl, hB⟩
  · have hB := hB.2 c
    refine E_iload_n 1 dX12_isRow_4 rfl rfl ?_
    refine E_aload_n 0 dX12_isRow_5 rfl rfl rfl ?_
    refine E_gI (v := sI G 66 16) fG_X12_223 rfl (lo_66 hL) rfl dX12_isRow_6 ?_
    refine E_icmp_ge (tgt := 16) dX12_isRow_9 (by decide) (fun c => ?_) (fun c => ?_)
    · have hB := hB.1 c
      refine E_iconst (v := 0) dX12_isRow_16 (by decide) ?_
      exact E_zret rfl (Or.inl rfl) dX12_isRow_17 ⟨_, rfl, rfl, hB⟩
    · have hB := hB.2 c
      refine E_iconst (v := 1) dX12_isRow_12 (by decide) ?_
      refine E_goto (tgt := 17) dX12_isRow_13 (by decide) ?_
      exact E_zret rfl (Or.inr rfl) dX12_isRow_17 ⟨_, rfl, rfl, hB⟩

set_option maxRecDepth 20000 in
set_option maxHeartbeats 2000000 in
theorem kX12_isSeen_0 {K : KT} {G : St} {Q : Int32 → St → Prop} {x1 : Int32} (hL : Lay G.2.2) 
    (hB : EvI K mX12_isRow 0 0 [(0, .ref 66), (1, .int x1)] [] G (fun r1 G1 => ((r1 = 0 → Q 0 G1) ∧ (¬ r1 = 0 → vp_in ((30 * (sI G1 66 26)) + x1) 120 ∧ ((¬ (sI G1 83 (Int32.toNatClampNeg ((30 * (sI G1 66 26)) + x1))) = 0 → Q 0 G1) ∧ ((sI G1 83 (Int32.toNatClampNeg ((30 * (sI G1 66 26)) + x1))) = 0 → Q 1 G1)))))) :
    EvI K mX12_isSeen 1 0 [(0, .ref 66), (1, .int x1)] [] G Q := by
  refine E_aload_n 0 dX12_isSeen_0 rfl rfl rfl ?_
  refine E_iload_n 1 dX12_isSeen_1 rfl rfl ?_
  refine E_cV (ci := 11) (as := [.int x1]) (st := []) cm_X12_isRow cV_X12_284 ⟨_, _, rfl⟩ (by decide) (lo_66 hL) rfl rfl (by decide) (Nat.le_of_ble_eq_true rfl) (Nat.le_of_ble_eq_true rfl) dX12_isSeen_2 hB (fun r G1 hr => ?_)
  obtain ⟨r1, rfl, hE1, hB⟩ := hr
  have hL1 : Lay G1.2.2 := by rw [hE1]; exact hL
  have hE1 : G1.2.2 = G.2.2 := hE1
  show Ev K mX12_isSeen 1 5 [(0, .ref 66), (1, .int x1)] [.int r1] G1 _
  refine E_if_eq (tgt := 29) dX12_isSeen_5 (by decide) (fun c => ?_) (fun c => ?_)
  · have hB := hB.1 c
    refine E_iconst (v := 0) dX12_isSeen_29 (by decide) ?_
    exact E_zret rfl (Or.inl rfl) dX12_isSeen_30 ⟨_, rfl, hE1, hB⟩
  · have hB := hB.2 c
    refine E_aload_n 0 dX12_isSeen_8 rfl rfl rfl ?_
    refine E_gR (j := 83) fG_X12_86 rfl (lo_66 hL1) (lr_66_28 hL1) (by decide) dX12_isSeen_9 ?_
    refine E_bipush (v := 30) dX12_isSeen_12 (by decide) ?_
    refine E_aload_n 0 dX12_isSeen_14 rfl rfl rfl ?_
    refine E_gI (v := sI G1 66 26) fG_X12_281 rfl (lo_66 hL1) rfl dX12_isSeen_15 ?_
    refine E_imul dX12_isSeen_18 ?_
    refine E_iload_n 1 dX12_isSeen_19 rfl rfl ?_
    refine E_iadd dX12_isSeen_20 ?_
    obtain ⟨qq2, hB⟩ := hB
    refine E_aZ (p := Int32.toNatClampNeg ((30 * (sI G1 66 26)) + x1)) (v := sI G1 83 (Int32.toNatClampNeg ((30 * (sI G1 66 26)) + x1))) (la_83 hL1) qq2 rfl rfl dX12_isSeen_21 ?_
    refine E_if_ne (tgt := 29) dX12_isSeen_22 (by decide) (fun c => ?_) (fun c => ?_)
    · have hB := hB.1 c
      refine E_iconst (v := 0) dX12_isSeen_29 (by decide) ?_
      exact E_zret rfl (Or.inl rfl) dX12_isSeen_30 ⟨_, rfl, hE1, hB⟩
    · have hB := hB.2 c
      refine E_iconst (v := 1) dX12_isSeen_25 (by decide) ?_
      refine E_goto (tgt := 30) dX12_isSeen_26 (by decide) ?_
      exact E_zret rfl (Or.inr rfl) dX12_isSeen_30 ⟨_, rfl, hE1, hB⟩

set_option maxRecDepth 20000 in
set_option maxHeartbeats 2000000 in
theorem kX12_kindOf_0 {K : KT} {G : St} {Q : Int32 → St → Prop} {x1 : Int32} {x2 : Int32} (hL : Lay G.2.2) 
    (hB : vp_in x1 31 ∧ vp_in ((4 * (sI G 77 (Int32.toNatClampNeg x1))) + x2) 40 ∧ Q (sI G 76 (Int32.toNatClampNeg ((4 * (sI G 77 (Int32.toNatClampNeg x1))) + x2))) G) :
    EvI K mX12_kindOf 0 0 [(0, .ref 66), (1, .int x1), (2, .int x2)] [] G Q := by
  refine E_aload_n 0 dX12_kindOf_0 rfl rfl rfl ?_
  refine E_gR (j := 76) fG_X12_65 rfl (lo_66 hL) (lr_66_14 hL) (by decide) dX12_kindOf_1 ?_
  refine E_iconst (v := 4) dX12_kindOf_4 (by decide) ?_
  refine E_aload_n 0 dX12_kindOf_5 rfl rfl rfl ?_
  refine E_gR (j := 77) fG_X12_68 rfl (lo_66 hL) (lr_66_18 hL) (by decide) dX12_kindOf_6 ?_
  refine E_iload_n 1 dX12_kindOf_9 rfl rfl ?_
  obtain ⟨qq1, hB⟩ := hB
  refine E_aI (p := Int32.toNatClampNeg x1) (v := sI G 77 (Int32.toNatClampNeg x1)) (la_77 hL) qq1 rfl rfl dX12_kindOf_10 ?_
  refine E_imul dX12_kindOf_11 ?_
  refine E_iload_n 2 dX12_kindOf_12 rfl rfl ?_
  refine E_iadd dX12_kindOf_13 ?_
  obtain ⟨qq2, hB⟩ := hB
  refine E_aI (p := Int32.toNatClampNeg ((4 * (sI G 77 (Int32.toNatClampNeg x1))) + x2)) (v := sI G 76 (Int32.toNatClampNeg ((4 * (sI G 77 (Int32.toNatClampNeg x1))) + x2))) (la_76 hL) qq2 rfl rfl dX12_kindOf_14 ?_
  exact E_iret rfl dX12_kindOf_15 ⟨_, rfl, rfl, hB⟩

set_option maxRecDepth 20000 in
set_option maxHeartbeats 2000000 in
theorem kX12_pointTo_0 {K : KT} {G : St} {Q : Int32 → St → Prop} {x1 : Int32} {x2 : Int32} {x3 : Int32} (hL : Lay G.2.2) 
    (hB : EvI K mX12_pointTo 2 6 [(0, .ref 66), (1, .int x1), (2, .int x2), (3, .int x3), (4, .int 0), (5, .int 0)] [] G Q) :
    EvI K mX12_pointTo 2 0 [(0, .ref 66), (1, .int x1), (2, .int x2), (3, .int x3)] [] G Q := by
  refine E_iconst (v := 0) dX12_pointTo_0 (by decide) ?_
  refine E_istore (lv' := [(0, .ref 66), (1, .int x1), (2, .int x2), (3, .int x3), (4, .int 0)]) dX12_pointTo_1 (by decide) rfl ?_
  refine E_iconst (v := 0) dX12_pointTo_3 (by decide) ?_
  refine E_istore (lv' := [(0, .ref 66), (1, .int x1), (2, .int x2), (3, .int x3), (4, .int 0), (5, .int 0)]) dX12_pointTo_4 (by decide) rfl ?_
  exact EvI.tr hB rfl

set_option maxRecDepth 20000 in
set_option maxHeartbeats 2000000 in
theorem kX12_pointTo_6 {K : KT} {G : St} {Q : Int32 → St → Prop} {x1 : Int32} {x2 : Int32} {x3 : Int32} {x4 : Int32} {x5 : Int32} (hL : Lay G.2.2) 
    (hB : (((sI G 66 16) ≤ x5 → Q x4 G) ∧ (¬ (sI G 66 16) ≤ x5 → EvI K mX12_isSeen 1 0 [(0, .ref 66), (1, .int x5)] [] G (fun r1 G1 => ((r1 = 0 → EvI K mX12_pointTo 2 58 [(0, .ref 66), (1, .int x1), (2, .int x2), (3, .int x3), (5, .int x5)] [.int x4] G1 Q) ∧ (¬ r1 = 0 → vp_in x5 31 ∧ ((¬ (sI G1 77 (Int32.toNatClampNeg x5)) = x1 → EvI K mX12_pointTo 2 58 [(0, .ref 66), (1, .int x1), (2, .int x2), (3, .int x3), (5, .int x5)] [.int x4] G1 Q) ∧ ((sI G1 77 (Int32.toNatClampNeg x5)) = x1 → vp_in ((4 * x5) + x2) 124 ∧ ((¬ (sL G1 78 (Int32.toNatClampNeg ((4 * x5) + x2))) = (Int32.toInt64 x3) → EvI K mX12_pointTo 2 58 [(0, .ref 66), (1, .int x1), (2, .int x2), (3, .int x3), (5, .int x5)] [.int x4] G1 Q) ∧ ((sL G1 78 (Int32.toNatClampNeg ((4 * x5) + x2))) = (Int32.toInt64 x3) → EvI K mX12_pointTo 2 59 [(0, .ref 66), (1, .int x1), (2, .int x2), (3, .int x3), (5, .int x5)] [.int 1, .int x4] G1 Q)))))))))) :
    EvI K mX12_pointTo 2 6 [(0, .ref 66), (1, .int x1), (2, .int x2), (3, .int x3), (4, .int x4), (5, .int x5)] [] G Q := by
  refine E_iload 5 dX12_pointTo_6 rfl ?_
  refine E_aload_n 0 dX12_pointTo_8 rfl rfl rfl ?_
  refine E_gI (v := sI G 66 16) fG_X12_223 rfl (lo_66 hL) rfl dX12_pointTo_9 ?_
  refine E_icmp_ge (tgt := 68) dX12_pointTo_12 (by decide) (fun c => ?_) (fun c => ?_)
  · have hB := hB.1 c
    refine E_iload 4 dX12_pointTo_68 rfl ?_
    exact E_iret rfl dX12_pointTo_70 ⟨_, rfl, rfl, hB⟩
  · have hB := hB.2 c
    refine E_iload 4 dX12_pointTo_15 rfl ?_
    refine E_aload_n 0 dX12_pointTo_17 rfl rfl rfl ?_
    refine E_iload 5 dX12_pointTo_18 rfl ?_
    refine E_cV (ci := 11) (as := [.int x5]) (st := [.int x4]) cm_X12_isSeen cV_X12_287 ⟨_, _, rfl⟩ (by decide) (lo_66 hL) rfl rfl (by decide) (Nat.le_of_ble_eq_true rfl) (Nat.le_of_ble_eq_true rfl) dX12_pointTo_20 hB (fun r G1 hr => ?_)
    obtain ⟨r1, rfl, hE1, hB⟩ := hr
    have hL1 : Lay G1.2.2 := by rw [hE1]; exact hL
    have hE1 : G1.2.2 = G.2.2 := hE1
    show Ev K mX12_pointTo 2 23 [(0, .ref 66), (1, .int x1), (2, .int x2), (3, .int x3), (4, .int x4), (5, .int x5)] [.int r1, .int x4] G1 _
    refine E_if_eq (tgt := 58) dX12_pointTo_23 (by decide) (fun c => ?_) (fun c => ?_)
    · have hB := hB.1 c
      refine E_sub (lv' := [(0, .ref 66), (1, .int x1), (2, .int x2), (3, .int x3), (5, .int x5)]) [0, 1, 2, 3, 5] rfl ?_
      exact EvI.tr hB hE1
    · have hB := hB.2 c
      refine E_aload_n 0 dX12_pointTo_26 rfl rfl rfl ?_
      refine E_gR (j := 77) fG_X12_68 rfl (lo_66 hL1) (lr_66_18 hL1) (by decide) dX12_pointTo_27 ?_
      refine E_iload 5 dX12_pointTo_30 rfl ?_
      obtain ⟨qq2, hB⟩ := hB
      refine E_aI (p := Int32.toNatClampNeg x5) (v := sI G1 77 (Int32.toNatClampNeg x5)) (la_77 hL1) qq2 rfl rfl dX12_pointTo_32 ?_
      refine E_iload_n 1 dX12_pointTo_33 rfl rfl ?_
      refine E_icmp_ne (tgt := 58) dX12_pointTo_34 (by decide) (fun c => ?_) (fun c => ?_)
      · have hB := hB.1 c
        refine E_sub (lv' := [(0, .ref 66), (1, .int x1), (2, .int x2), (3, .int x3), (5, .int x5)]) [0, 1, 2, 3, 5] rfl ?_
        exact EvI.tr hB hE1
      · have hB := hB.2 c
        refine E_aload_n 0 dX12_pointTo_37 rfl rfl rfl ?_
        refine E_gR (j := 78) fG_X12_71 rfl (lo_66 hL1) (lr_66_19 hL1) (by decide) dX12_pointTo_38 ?_
        refine E_iconst (v := 4) dX12_pointTo_41 (by decide) ?_
        refine E_iload 5 dX12_pointTo_42 rfl ?_
        refine E_imul dX12_pointTo_44 ?_
        refine E_iload_n 2 dX12_pointTo_45 rfl rfl ?_
        refine E_iadd dX12_pointTo_46 ?_
        obtain ⟨qq3, hB⟩ := hB
        refine E_aL (p := Int32.toNatClampNeg ((4 * x5) + x2)) (v := sL G1 78 (Int32.toNatClampNeg ((4 * x5) + x2))) (la_78 hL1) qq3 rfl rfl dX12_pointTo_47 ?_
        refine E_iload_n 3 dX12_pointTo_48 rfl rfl ?_
        refine E_i2l dX12_pointTo_49 rfl ?_
        refine E_lcmp dX12_pointTo_50 ?_
        refine E_if_ne (tgt := 58) dX12_pointTo_51 (by decide) (fun c => ?_) (fun c => ?_)
        · have hB := hB.1 ((fun q => c ((lgc_eq (sL G1 78 (Int32.toNatClampNeg ((4 * x5) + x2))) (Int32.toInt64 x3)).mpr q)))
          refine E_sub (lv' := [(0, .ref 66), (1, .int x1), (2, .int x2), (3, .int x3), (5, .int x5)]) [0, 1, 2, 3, 5] rfl ?_
          exact EvI.tr hB hE1
        · have hB := hB.2 ((lgc_eq (sL G1 78 (Int32.toNatClampNeg ((4 * x5) + x2))) (Int32.toInt64 x3)).mp c)
          refine E_iconst (v := 1) dX12_pointTo_54 (by decide) ?_
          refine E_goto (tgt := 59) dX12_pointTo_55 (by decide) ?_
          refine E_sub (lv' := [(0, .ref 66), (1, .int x1), (2, .int x2), (3, .int x3), (5, .int x5)]) [0, 1, 2, 3, 5] rfl ?_
          exact EvI.tr hB hE1

set_option maxRecDepth 20000 in
set_option maxHeartbeats 2000000 in
theorem kX12_pointTo_58 {K : KT} {G : St} {Q : Int32 → St → Prop} {x1 : Int32} {x2 : Int32} {x3 : Int32} {x5 : Int32} {xs0 : Int32} (hL : Lay G.2.2) 
    (hB : EvI K mX12_pointTo 2 59 [(0, .ref 66), (1, .int x1), (2, .int x2), (3, .int x3), (5, .int x5)] [.int 0, .int xs0] G Q) :
    EvI K mX12_pointTo 2 58 [(0, .ref 66), (1, .int x1), (2, .int x2), (3, .int x3), (5, .int x5)] [.int xs0] G Q := by
  refine E_iconst (v := 0) dX12_pointTo_58 (by decide) ?_
  exact EvI.tr hB rfl

set_option maxRecDepth 20000 in
set_option maxHeartbeats 2000000 in
theorem kX12_pointTo_59 {K : KT} {G : St} {Q : Int32 → St → Prop} {x1 : Int32} {x2 : Int32} {x3 : Int32} {x5 : Int32} {xs0 : Int32} {xs1 : Int32} (hL : Lay G.2.2) 
    (hB : EvI K mX12_pointTo 2 6 [(0, .ref 66), (1, .int x1), (2, .int x2), (3, .int x3), (4, .int (xs0 + xs1)), (5, .int (x5 + 1))] [] G Q) :
    EvI K mX12_pointTo 2 59 [(0, .ref 66), (1, .int x1), (2, .int x2), (3, .int x3), (5, .int x5)] [.int xs1, .int xs0] G Q := by
  refine E_iadd dX12_pointTo_59 ?_
  refine E_istore (lv' := [(0, .ref 66), (1, .int x1), (2, .int x2), (3, .int x3), (4, .int (xs0 + xs1)), (5, .int x5)]) dX12_pointTo_60 (by decide) rfl ?_
  refine E_iinc (v := x5 + 1) (lv' := [(0, .ref 66), (1, .int x1), (2, .int x2), (3, .int x3), (4, .int (xs0 + xs1)), (5, .int (x5 + 1))]) 5 dX12_pointTo_62 rfl rfl (by decide) rfl ?_
  refine E_goto (tgt := 6) dX12_pointTo_65 (by decide) ?_
  exact EvI.tr hB rfl

set_option maxRecDepth 20000 in
set_option maxHeartbeats 2000000 in
theorem kX12_least_0 {K : KT} {G : St} {Q : Int32 → St → Prop} {x0 : Int32} {x1 : Int32} (hL : Lay G.2.2) 
    (hB : ((0 ≤ x0 → ((x1 < 0 → Q x0 G) ∧ (¬ x1 < 0 → ((x1 ≤ x0 → Q x1 G) ∧ (¬ x1 ≤ x0 → Q x0 G))))) ∧ (¬ 0 ≤ x0 → Q x1 G))) :
    EvI K mX12_least 0 0 [(0, .int x0), (1, .int x1)] [] G Q := by
  refine E_iload_n 0 dX12_least_0 rfl rfl ?_
  refine E_if_ge (tgt := 8) dX12_least_1 (by decide) (fun c => ?_) (fun c => ?_)
  · have hB := hB.1 c
    refine E_iload_n 1 dX12_least_8 rfl rfl ?_
    refine E_if_lt (tgt := 17) dX12_least_9 (by decide) (fun c => ?_) (fun c => ?_)
    · have hB := hB.1 c
      refine E_iload_n 0 dX12_least_17 rfl rfl ?_
      refine E_goto (tgt := 22) dX12_least_18 (by decide) ?_
      exact E_iret rfl dX12_least_22 ⟨_, rfl, rfl, hB⟩
    · have hB := hB.2 c
      refine E_iload_n 0 dX12_least_12 rfl rfl ?_
      refine E_iload_n 1 dX12_least_13 rfl rfl ?_
      refine E_icmp_ge (tgt := 21) dX12_least_14 (by decide) (fun c => ?_) (fun c => ?_)
      · have hB := hB.1 c
        refine E_iload_n 1 dX12_least_21 rfl rfl ?_
        exact E_iret rfl dX12_least_22 ⟨_, rfl, rfl, hB⟩
      · have hB := hB.2 c
        refine E_iload_n 0 dX12_least_17 rfl rfl ?_
        refine E_goto (tgt := 22) dX12_least_18 (by decide) ?_
        exact E_iret rfl dX12_least_22 ⟨_, rfl, rfl, hB⟩
  · have hB := hB.2 c
    refine E_iload_n 1 dX12_least_4 rfl rfl ?_
    refine E_goto (tgt := 22) dX12_least_5 (by decide) ?_
    exact E_iret rfl dX12_least_22 ⟨_, rfl, rfl, hB⟩

set_option maxRecDepth 20000 in
set_option maxHeartbeats 2000000 in
theorem kX12_ties_0 {K : KT} {G : St} {Q : St → Prop} {x1 : Int32} {x2 : Int32} {x3 : Int32} (hL : Lay G.2.2) 
    (hB : vp_in ((30 * x1) + x2) 900 ∧ EvI K mX12_least 0 0 [(0, .int (sI G 86 (Int32.toNatClampNeg ((30 * x1) + x2)))), (1, .int x3)] [] G (fun r2 G2 => vp_in ((30 * x1) + x2) 900 ∧ vp_in ((30 * x2) + x1) 900 ∧ vp_in x1 30 ∧ vp_in x1 30 ∧ vp_in x2 30 ∧ ∀ v8 : Int32, v8 = sI (uI (uI (uI G2 86 (Int32.toNatClampNeg ((30 * x1) + x2)) r2) 86 (Int32.toNatClampNeg ((30 * x2) + x1)) r2) 87 (Int32.toNatClampNeg x1) ((sI G2 87 (Int32.toNatClampNeg x1)) ||| (1 <<< (x2 &&& 31)))) 87 (Int32.toNatClampNeg x2) → vp_in x2 30 ∧ ∀ G10 : St, G10 = (uI (uI (uI (uI G2 86 (Int32.toNatClampNeg ((30 * x1) + x2)) r2) 86 (Int32.toNatClampNeg ((30 * x2) + x1)) r2) 87 (Int32.toNatClampNeg x1) ((sI G2 87 (Int32.toNatClampNeg x1)) ||| (1 <<< (x2 &&& 31)))) 87 (Int32.toNatClampNeg x2) (v8 ||| (1 <<< (x1 &&& 31)))) → Q G10)) :
    EvV K mX12_ties 1 0 [(0, .ref 66), (1, .int x1), (2, .int x2), (3, .int x3)] [] G Q := by
  refine E_aload_n 0 dX12_ties_0 rfl rfl rfl ?_
  refine E_gR (j := 86) fG_X12_96 rfl (lo_66 hL) (lr_66_33 hL) (by decide) dX12_ties_1 ?_
  refine E_bipush (v := 30) dX12_ties_4 (by decide) ?_
  refine E_iload_n 1 dX12_ties_6 rfl rfl ?_
  refine E_imul dX12_ties_7 ?_
  refine E_iload_n 2 dX12_ties_8 rfl rfl ?_
  refine E_iadd dX12_ties_9 ?_
  obtain ⟨qq1, hB⟩ := hB
  refine E_aI (p := Int32.toNatClampNeg ((30 * x1) + x2)) (v := sI G 86 (Int32.toNatClampNeg ((30 * x1) + x2))) (la_86 hL) qq1 rfl rfl dX12_ties_10 ?_
  refine E_iload_n 3 dX12_ties_11 rfl rfl ?_
  refine E_callS (as := [.int (sI G 86 (Int32.toNatClampNeg ((30 * x1) + x2))), .int x3]) (st := []) cm_X12_least cS_X12_314 rfl rfl (by decide) (Nat.le_of_ble_eq_true rfl) (Nat.le_of_ble_eq_true rfl) dX12_ties_12 hB (fun r G2 hr => ?_)
  obtain ⟨r2, rfl, hE2, hB⟩ := hr
  have hL2 : Lay G2.2.2 := by rw [hE2]; exact hL
  have hE2 : G2.2.2 = G.2.2 := hE2
  show Ev K mX12_ties 1 15 [(0, .ref 66), (1, .int x1), (2, .int x2), (3, .int x3)] [.int r2] G2 _
  refine E_istore (lv' := [(0, .ref 66), (1, .int x1), (2, .int x2), (3, .int x3), (4, .int r2)]) dX12_ties_15 (by decide) rfl ?_
  refine E_aload_n 0 dX12_ties_17 rfl rfl rfl ?_
  refine E_gR (j := 86) fG_X12_96 rfl (lo_66 hL2) (lr_66_33 hL2) (by decide) dX12_ties_18 ?_
  refine E_bipush (v := 30) dX12_ties_21 (by decide) ?_
  refine E_iload_n 1 dX12_ties_23 rfl rfl ?_
  refine E_imul dX12_ties_24 ?_
  refine E_iload_n 2 dX12_ties_25 rfl rfl ?_
  refine E_iadd dX12_ties_26 ?_
  refine E_iload 4 dX12_ties_27 rfl ?_
  obtain ⟨qq3, hB⟩ := hB
  refine E_sI (p := Int32.toNatClampNeg ((30 * x1) + x2)) (la_86 hL2) qq3 rfl dX12_ties_29 ?_
  refine E_aload_n 0 dX12_ties_30 rfl rfl rfl ?_
  refine E_gR (j := 86) fG_X12_96 rfl (lo_66 hL2) (lr_66_33 hL2) (by decide) dX12_ties_31 ?_
  refine E_bipush (v := 30) dX12_ties_34 (by decide) ?_
  refine E_iload_n 2 dX12_ties_36 rfl rfl ?_
  refine E_imul dX12_ties_37 ?_
  refine E_iload_n 1 dX12_ties_38 rfl rfl ?_
  refine E_iadd dX12_ties_39 ?_
  refine E_iload 4 dX12_ties_40 rfl ?_
  obtain ⟨qq4, hB⟩ := hB
  refine E_sI (p := Int32.toNatClampNeg ((30 * x2) + x1)) (la_86 hL2) qq4 rfl dX12_ties_42 ?_
  refine E_aload_n 0 dX12_ties_43 rfl rfl rfl ?_
  refine E_gR (j := 87) fG_X12_99 rfl (lo_66 hL2) (lr_66_34 hL2) (by decide) dX12_ties_44 ?_
  refine E_iload_n 1 dX12_ties_47 rfl rfl ?_
  refine E_dup2 dX12_ties_48 rfl rfl ?_
  obtain ⟨qq5, hB⟩ := hB
  refine E_aI (p := Int32.toNatClampNeg x1) (v := sI G2 87 (Int32.toNatClampNeg x1)) (la_87 hL2) qq5 rfl rfl dX12_ties_49 ?_
  refine E_iconst (v := 1) dX12_ties_50 (by decide) ?_
  refine E_iload_n 2 dX12_ties_51 rfl rfl ?_
  refine E_ishl dX12_ties_52 ?_
  refine E_ior dX12_ties_53 ?_
  obtain ⟨qq6, hB⟩ := hB
  refine E_sI (p := Int32.toNatClampNeg x1) (la_87 hL2) qq6 rfl dX12_ties_54 ?_
  refine E_aload_n 0 dX12_ties_55 rfl rfl rfl ?_
  refine E_gR (j := 87) fG_X12_99 rfl (lo_66 hL2) (lr_66_34 hL2) (by decide) dX12_ties_56 ?_
  refine E_iload_n 2 dX12_ties_59 rfl rfl ?_
  refine E_dup2 dX12_ties_60 rfl rfl ?_
  obtain ⟨qq7, hB⟩ := hB
  refine E_aI (p := Int32.toNatClampNeg x2) (v := sI (uI (uI (uI G2 86 (Int32.toNatClampNeg ((30 * x1) + x2)) r2) 86 (Int32.toNatClampNeg ((30 * x2) + x1)) r2) 87 (Int32.toNatClampNeg x1) ((sI G2 87 (Int32.toNatClampNeg x1)) ||| (1 <<< (x2 &&& 31)))) 87 (Int32.toNatClampNeg x2)) (la_87 hL2) qq7 rfl rfl dX12_ties_61 ?_
  refine E_topi (fun v8 ev8 => ?_)
  have hB := hB v8 ev8
  refine E_iconst (v := 1) dX12_ties_62 (by decide) ?_
  refine E_iload_n 1 dX12_ties_63 rfl rfl ?_
  refine E_ishl dX12_ties_64 ?_
  refine E_ior dX12_ties_65 ?_
  obtain ⟨qq9, hB⟩ := hB
  refine E_sI (p := Int32.toNatClampNeg x2) (la_87 hL2) qq9 rfl dX12_ties_66 ?_
  refine E_nmG (fun G10 eG10 => ?_)
  have hB := hB G10 eG10
  have hL10 : Lay G10.2.2 := by rw [eG10]; exact hL2
  have hE10 : G10.2.2 = G.2.2 := by rw [eG10]; exact hE2
  exact E_vret rfl dX12_ties_67 ⟨rfl, hE10, hB⟩

set_option maxRecDepth 20000 in
set_option maxHeartbeats 2000000 in
theorem kX12_lettersOf_0 {K : KT} {G : St} {Q : Int32 → St → Prop} {y0 : Int64} (hL : Lay G.2.2) 
    (hB : EvI K mX12_lettersOf 0 4 [(2, .int 0), (3, .long y0)] [] G Q) :
    EvI K mX12_lettersOf 0 0 [(0, .long y0)] [] G Q := by
  refine E_iconst (v := 0) dX12_lettersOf_0 (by decide) ?_
  refine E_istore_n (lv' := [(0, .long y0), (2, .int 0)]) dX12_lettersOf_1 rfl (by decide) rfl ?_
  refine E_lload_n 0 dX12_lettersOf_2 rfl rfl ?_
  refine E_lstore_n (lv' := [(0, .long y0), (2, .int 0), (3, .long y0)]) dX12_lettersOf_3 rfl (by decide) rfl ?_
  refine E_sub (lv' := [(2, .int 0), (3, .long y0)]) [1, 2] rfl ?_
  exact EvI.tr hB rfl

set_option maxRecDepth 20000 in
set_option maxHeartbeats 2000000 in
theorem kX12_lettersOf_4 {K : KT} {G : St} {Q : Int32 → St → Prop} {x2 : Int32} {y3 : Int64} (hL : Lay G.2.2) 
    (hB : ((¬ 0 < y3 → Q x2 G) ∧ (0 < y3 → EvI K mX12_lettersOf 0 4 [(2, .int (x2 + 1)), (3, .long (y3 / 27))] [] G Q))) :
    EvI K mX12_lettersOf 0 4 [(2, .int x2), (3, .long y3)] [] G Q := by
  refine E_lload_n 1 dX12_lettersOf_4 rfl rfl ?_
  refine E_lconst (v := 0) dX12_lettersOf_5 (by decide) ?_
  refine E_lcmp dX12_lettersOf_6 ?_
  refine E_if_le (tgt := 22) dX12_lettersOf_7 (by decide) (fun c => ?_) (fun c => ?_)
  · have hB := hB.1 ((fun q => absurd ((lgc_gt y3 0).mpr q) (Int32.not_lt.mpr c)))
    refine E_iload_n 0 dX12_lettersOf_22 rfl rfl ?_
    exact E_iret rfl dX12_lettersOf_23 ⟨_, rfl, rfl, hB⟩
  · have hB := hB.2 ((lgc_gt y3 0).mp (Int32.not_le.mp c))
    refine E_iinc (v := x2 + 1) (lv' := [(2, .int (x2 + 1)), (3, .long y3)]) 0 dX12_lettersOf_10 rfl rfl (by decide) rfl ?_
    refine E_lload_n 1 dX12_lettersOf_13 rfl rfl ?_
    refine E_ldc2 (v := 27) tm_1495 dX12_lettersOf_14 ?_
    refine E_ldiv dX12_lettersOf_17 (by decide) ?_
    refine E_lstore_n (lv' := [(2, .int (x2 + 1)), (3, .long (y3 / 27))]) dX12_lettersOf_18 rfl (by decide) rfl ?_
    refine E_goto (tgt := 4) dX12_lettersOf_19 (by decide) ?_
    exact EvI.tr hB rfl

set_option maxRecDepth 20000 in
set_option maxHeartbeats 2000000 in
theorem kX12_letter_0 {K : KT} {G : St} {Q : Int64 → St → Prop} {y0 : Int64} {x2 : Int32} (hL : Lay G.2.2) 
    (hB : EvL K mX12_letter 0 5 [(2, .int x2), (3, .long y0), (5, .int 0)] [] G Q) :
    EvL K mX12_letter 0 0 [(0, .long y0), (2, .int x2)] [] G Q := by
  refine E_lload_n 0 dX12_letter_0 rfl rfl ?_
  refine E_lstore_n (lv' := [(0, .long y0), (2, .int x2), (3, .long y0)]) dX12_letter_1 rfl (by decide) rfl ?_
  refine E_iconst (v := 0) dX12_letter_2 (by decide) ?_
  refine E_istore (lv' := [(0, .long y0), (2, .int x2), (3, .long y0), (5, .int 0)]) dX12_letter_3 (by decide) rfl ?_
  refine E_sub (lv' := [(2, .int x2), (3, .long y0), (5, .int 0)]) [1, 2, 3] rfl ?_
  exact EvL.tr hB rfl

set_option maxRecDepth 20000 in
set_option maxHeartbeats 2000000 in
theorem kX12_letter_5 {K : KT} {G : St} {Q : Int64 → St → Prop} {x2 : Int32} {y3 : Int64} {x5 : Int32} (hL : Lay G.2.2) 
    (hB : ((x2 ≤ x5 → Q (y3 - y3 / 27 * 27) G) ∧ (¬ x2 ≤ x5 → EvL K mX12_letter 0 5 [(2, .int x2), (3, .long (y3 / 27)), (5, .int (x5 + 1))] [] G Q))) :
    EvL K mX12_letter 0 5 [(2, .int x2), (3, .long y3), (5, .int x5)] [] G Q := by
  refine E_iload 2 dX12_letter_5 rfl ?_
  refine E_iload_n 0 dX12_letter_7 rfl rfl ?_
  refine E_icmp_ge (tgt := 23) dX12_letter_8 (by decide) (fun c => ?_) (fun c => ?_)
  · have hB := hB.1 c
    refine E_lload_n 1 dX12_letter_23 rfl rfl ?_
    refine E_ldc2 (v := 27) tm_1495 dX12_letter_24 ?_
    refine E_lrem dX12_letter_27 (by decide) ?_
    exact E_lret rfl dX12_letter_28 ⟨_, rfl, rfl, hB⟩
  · have hB := hB.2 c
    refine E_lload_n 1 dX12_letter_11 rfl rfl ?_
    refine E_ldc2 (v := 27) tm_1495 dX12_letter_12 ?_
    refine E_ldiv dX12_letter_15 (by decide) ?_
    refine E_lstore_n (lv' := [(2, .int x2), (3, .long (y3 / 27)), (5, .int x5)]) dX12_letter_16 rfl (by decide) rfl ?_
    refine E_iinc (v := x5 + 1) (lv' := [(2, .int x2), (3, .long (y3 / 27)), (5, .int (x5 + 1))]) 2 dX12_letter_17 rfl rfl (by decide) rfl ?_
    refine E_goto (tgt := 5) dX12_letter_20 (by decide) ?_
    exact EvL.tr hB rfl

set_option maxRecDepth 20000 in
set_option maxHeartbeats 2000000 in
theorem kX12_power_0 {K : KT} {G : St} {Q : Int64 → St → Prop} {x0 : Int32} (hL : Lay G.2.2) 
    (hB : EvL K mX12_power 0 4 [(0, .int x0), (1, .long 1), (3, .int 0)] [] G Q) :
    EvL K mX12_power 0 0 [(0, .int x0)] [] G Q := by
  refine E_lconst (v := 1) dX12_power_0 (by decide) ?_
  refine E_lstore_n (lv' := [(0, .int x0), (1, .long 1)]) dX12_power_1 rfl (by decide) rfl ?_
  refine E_iconst (v := 0) dX12_power_2 (by decide) ?_
  refine E_istore_n (lv' := [(0, .int x0), (1, .long 1), (3, .int 0)]) dX12_power_3 rfl (by decide) rfl ?_
  exact EvL.tr hB rfl

set_option maxRecDepth 20000 in
set_option maxHeartbeats 2000000 in
theorem kX12_power_4 {K : KT} {G : St} {Q : Int64 → St → Prop} {x0 : Int32} {y1 : Int64} {x3 : Int32} (hL : Lay G.2.2) 
    (hB : ((x0 ≤ x3 → Q y1 G) ∧ (¬ x0 ≤ x3 → EvL K mX12_power 0 4 [(0, .int x0), (1, .long (y1 * 27)), (3, .int (x3 + 1))] [] G Q))) :
    EvL K mX12_power 0 4 [(0, .int x0), (1, .long y1), (3, .int x3)] [] G Q := by
  refine E_iload_n 2 dX12_power_4 rfl rfl ?_
  refine E_iload_n 0 dX12_power_5 rfl rfl ?_
  refine E_icmp_ge (tgt := 21) dX12_power_6 (by decide) (fun c => ?_) (fun c => ?_)
  · have hB := hB.1 c
    refine E_lload_n 1 dX12_power_21 rfl rfl ?_
    exact E_lret rfl dX12_power_22 ⟨_, rfl, rfl, hB⟩
  · have hB := hB.2 c
    refine E_lload_n 1 dX12_power_9 rfl rfl ?_
    refine E_ldc2 (v := 27) tm_1495 dX12_power_10 ?_
    refine E_lmul dX12_power_13 ?_
    refine E_lstore_n (lv' := [(0, .int x0), (1, .long (y1 * 27)), (3, .int x3)]) dX12_power_14 rfl (by decide) rfl ?_
    refine E_iinc (v := x3 + 1) (lv' := [(0, .int x0), (1, .long (y1 * 27)), (3, .int (x3 + 1))]) 2 dX12_power_15 rfl rfl (by decide) rfl ?_
    refine E_goto (tgt := 4) dX12_power_18 (by decide) ?_
    exact EvL.tr hB rfl

set_option maxRecDepth 20000 in
set_option maxHeartbeats 2000000 in
theorem kX12_without_0 {K : KT} {G : St} {Q : Int64 → St → Prop} {y0 : Int64} {x2 : Int32} (hL : Lay G.2.2) 
    (hB : EvL K mX12_power 0 0 [(0, .int x2)] [] G (fun r1 G1 => (¬ (27 * r1) = 0) ∧ (¬ r1 = 0) ∧ Q (((y0 / (27 * r1)) * r1) + (y0 - y0 / r1 * r1)) G1)) :
    EvL K mX12_without 1 0 [(0, .long y0), (2, .int x2)] [] G Q := by
  refine E_iload_n 1 dX12_without_0 rfl rfl ?_
  refine E_callS (as := [.int x2]) (st := []) cm_X12_power cS_X12_293 rfl rfl (by decide) (Nat.le_of_ble_eq_true rfl) (Nat.le_of_ble_eq_true rfl) dX12_without_1 hB (fun r G1 hr => ?_)
  obtain ⟨r1, rfl, hE1, hB⟩ := hr
  have hL1 : Lay G1.2.2 := by rw [hE1]; exact hL
  have hE1 : G1.2.2 = G.2.2 := hE1
  show Ev K mX12_without 1 4 [(0, .long y0), (2, .int x2)] [.long r1] G1 _
  refine E_lstore_n (lv' := [(0, .long y0), (2, .int x2), (3, .long r1)]) dX12_without_4 rfl (by decide) rfl ?_
  refine E_lload_n 0 dX12_without_5 rfl rfl ?_
  refine E_ldc2 (v := 27) tm_1495 dX12_without_6 ?_
  refine E_lload_n 2 dX12_without_9 rfl rfl ?_
  refine E_lmul dX12_without_10 ?_
  obtain ⟨qq2, hB⟩ := hB
  refine E_ldiv dX12_without_11 qq2 ?_
  refine E_lload_n 2 dX12_without_12 rfl rfl ?_
  refine E_lmul dX12_without_13 ?_
  refine E_lload_n 0 dX12_without_14 rfl rfl ?_
  refine E_lload_n 2 dX12_without_15 rfl rfl ?_
  obtain ⟨qq3, hB⟩ := hB
  refine E_lrem dX12_without_16 qq3 ?_
  refine E_ladd dX12_without_17 ?_
  exact E_lret rfl dX12_without_18 ⟨_, rfl, hE1, hB⟩

set_option maxRecDepth 20000 in
set_option maxHeartbeats 2000000 in
theorem kX12_isNear_0 {K : KT} {G : St} {Q : Int32 → St → Prop} {y0 : Int64} {y2 : Int64} (hL : Lay G.2.2) 
    (hB : EvI K mX12_lettersOf 0 0 [(0, .long y0)] [] G (fun r1 G1 => EvI K mX12_lettersOf 0 0 [(0, .long y2)] [] G1 (fun r2 G2 => ((¬ r1 = r2 → EvI K mX12_isNear 2 83 [(0, .long y0), (2, .long y2), (4, .int r1), (5, .int r2), (6, .int 0), (7, .int 0)] [] G2 Q) ∧ (r1 = r2 → EvI K mX12_isNear 2 28 [(0, .long y0), (2, .long y2), (4, .int r1), (5, .int r2), (7, .int 0), (8, .int 0)] [] G2 Q))))) :
    EvI K mX12_isNear 2 0 [(0, .long y0), (2, .long y2)] [] G Q := by
  refine E_lload_n 0 dX12_isNear_0 rfl rfl ?_
  refine E_callS (as := [.long y0]) (st := []) cm_X12_lettersOf cS_X12_297 rfl rfl (by decide) (Nat.le_of_ble_eq_true rfl) (Nat.le_of_ble_eq_true rfl) dX12_isNear_1 hB (fun r G1 hr => ?_)
  obtain ⟨r1, rfl, hE1, hB⟩ := hr
  have hL1 : Lay G1.2.2 := by rw [hE1]; exact hL
  have hE1 : G1.2.2 = G.2.2 := hE1
  show Ev K mX12_isNear 2 4 [(0, .long y0), (2, .long y2)] [.int r1] G1 _
  refine E_istore (lv' := [(0, .long y0), (2, .long y2), (4, .int r1)]) dX12_isNear_4 (by decide) rfl ?_
  refine E_lload_n 1 dX12_isNear_6 rfl rfl ?_
  refine E_callS (as := [.long y2]) (st := []) cm_X12_lettersOf cS_X12_297 rfl rfl (by decide) (Nat.le_of_ble_eq_true rfl) (Nat.le_of_ble_eq_true rfl) dX12_isNear_7 hB (fun r G2 hr => ?_)
  obtain ⟨r2, rfl, hE2, hB⟩ := hr
  have hL2 : Lay G2.2.2 := by rw [hE2]; exact hL1
  have hE2 : G2.2.2 = G.2.2 := hE2.trans hE1
  show Ev K mX12_isNear 2 10 [(0, .long y0), (2, .long y2), (4, .int r1)] [.int r2] G2 _
  refine E_istore (lv' := [(0, .long y0), (2, .long y2), (4, .int r1), (5, .int r2)]) dX12_isNear_10 (by decide) rfl ?_
  refine E_iconst (v := 0) dX12_isNear_12 (by decide) ?_
  refine E_istore (lv' := [(0, .long y0), (2, .long y2), (4, .int r1), (5, .int r2), (6, .int 0)]) dX12_isNear_13 (by decide) rfl ?_
  refine E_iload 2 dX12_isNear_15 rfl ?_
  refine E_iload 3 dX12_isNear_17 rfl ?_
  refine E_icmp_ne (tgt := 80) dX12_isNear_19 (by decide) (fun c => ?_) (fun c => ?_)
  · have hB := hB.1 c
    refine E_iconst (v := 0) dX12_isNear_80 (by decide) ?_
    refine E_istore (lv' := [(0, .long y0), (2, .long y2), (4, .int r1), (5, .int r2), (6, .int 0), (7, .int 0)]) dX12_isNear_81 (by decide) rfl ?_
    exact EvI.tr hB hE2
  · have hB := hB.2 c
    refine E_iconst (v := 0) dX12_isNear_22 (by decide) ?_
    refine E_istore (lv' := [(0, .long y0), (2, .long y2), (4, .int r1), (5, .int r2), (6, .int 0), (7, .int 0)]) dX12_isNear_23 (by decide) rfl ?_
    refine E_iconst (v := 0) dX12_isNear_25 (by decide) ?_
    refine E_istore (lv' := [(0, .long y0), (2, .long y2), (4, .int r1), (5, .int r2), (6, .int 0), (7, .int 0), (8, .int 0)]) dX12_isNear_26 (by decide) rfl ?_
    refine E_sub (lv' := [(0, .long y0), (2, .long y2), (4, .int r1), (5, .int r2), (7, .int 0), (8, .int 0)]) [0, 1, 2, 3, 5, 6] rfl ?_
    exact EvI.tr hB hE2

set_option maxRecDepth 20000 in
set_option maxHeartbeats 2000000 in
theorem kX12_isNear_28 {K : KT} {G : St} {Q : Int32 → St → Prop} {y0 : Int64} {y2 : Int64} {x4 : Int32} {x5 : Int32} {x7 : Int32} {x8 : Int32} (hL : Lay G.2.2) 
    (hB : ((x4 ≤ x8 → ((¬ x7 = 1 → EvI K mX12_isNear 2 83 [(0, .long y0), (2, .long y2), (4, .int x4), (5, .int x5), (6, .int 0), (7, .int 0)] [] G Q) ∧ (x7 = 1 → EvI K mX12_isNear 2 83 [(0, .long y0), (2, .long y2), (4, .int x4), (5, .int x5), (6, .int 1), (7, .int 0)] [] G Q))) ∧ (¬ x4 ≤ x8 → EvL K mX12_letter 0 0 [(0, .long y0), (2, .int x8)] [] G (fun r1 G1 => EvL K mX12_letter 0 0 [(0, .long y2), (2, .int x8)] [] G1 (fun r2 G2 => ((¬ r1 = r2 → EvI K mX12_isNear 2 58 [(0, .long y0), (2, .long y2), (4, .int x4), (5, .int x5), (8, .int x8)] [.int 1, .int x7] G2 Q) ∧ (r1 = r2 → EvI K mX12_isNear 2 58 [(0, .long y0), (2, .long y2), (4, .int x4), (5, .int x5), (8, .int x8)] [.int 0, .int x7] G2 Q))))))) :
    EvI K mX12_isNear 2 28 [(0, .long y0), (2, .long y2), (4, .int x4), (5, .int x5), (7, .int x7), (8, .int x8)] [] G Q := by
  refine E_iload 5 dX12_isNear_28 rfl ?_
  refine E_iload 2 dX12_isNear_30 rfl ?_
  refine E_icmp_ge (tgt := 67) dX12_isNear_32 (by decide) (fun c => ?_) (fun c => ?_)
  · have hB := hB.1 c
    refine E_iload 4 dX12_isNear_67 rfl ?_
    refine E_iconst (v := 1) dX12_isNear_69 (by decide) ?_
    refine E_icmp_ne (tgt := 77) dX12_isNear_70 (by decide) (fun c => ?_) (fun c => ?_)
    · have hB := hB.1 c
      refine E_iconst (v := 0) dX12_isNear_77 (by decide) ?_
      refine E_istore (lv' := [(0, .long y0), (2, .long y2), (4, .int x4), (5, .int x5), (6, .int 0), (7, .int x7), (8, .int x8)]) dX12_isNear_78 (by decide) rfl ?_
      refine E_iconst (v := 0) dX12_isNear_80 (by decide) ?_
      refine E_istore (lv' := [(0, .long y0), (2, .long y2), (4, .int x4), (5, .int x5), (6, .int 0), (7, .int 0), (8, .int x8)]) dX12_isNear_81 (by decide) rfl ?_
      refine E_sub (lv' := [(0, .long y0), (2, .long y2), (4, .int x4), (5, .int x5), (6, .int 0), (7, .int 0)]) [0, 1, 2, 3, 4, 5] rfl ?_
      exact EvI.tr hB rfl
    · have hB := hB.2 c
      refine E_iconst (v := 1) dX12_isNear_73 (by decide) ?_
      refine E_goto (tgt := 78) dX12_isNear_74 (by decide) ?_
      refine E_istore (lv' := [(0, .long y0), (2, .long y2), (4, .int x4), (5, .int x5), (6, .int 1), (7, .int x7), (8, .int x8)]) dX12_isNear_78 (by decide) rfl ?_
      refine E_iconst (v := 0) dX12_isNear_80 (by decide) ?_
      refine E_istore (lv' := [(0, .long y0), (2, .long y2), (4, .int x4), (5, .int x5), (6, .int 1), (7, .int 0), (8, .int x8)]) dX12_isNear_81 (by decide) rfl ?_
      refine E_sub (lv' := [(0, .long y0), (2, .long y2), (4, .int x4), (5, .int x5), (6, .int 1), (7, .int 0)]) [0, 1, 2, 3, 4, 5] rfl ?_
      exact EvI.tr hB rfl
  · have hB := hB.2 c
    refine E_iload 4 dX12_isNear_35 rfl ?_
    refine E_lload_n 0 dX12_isNear_37 rfl rfl ?_
    refine E_iload 5 dX12_isNear_38 rfl ?_
    refine E_callS (as := [.long y0, .int x8]) (st := [.int x7]) cm_X12_letter cS_X12_301 rfl rfl (by decide) (Nat.le_of_ble_eq_true rfl) (Nat.le_of_ble_eq_true rfl) dX12_isNear_40 hB (fun r G1 hr => ?_)
    obtain ⟨r1, rfl, hE1, hB⟩ := hr
    have hL1 : Lay G1.2.2 := by rw [hE1]; exact hL
    have hE1 : G1.2.2 = G.2.2 := hE1
    show Ev K mX12_isNear 2 43 [(0, .long y0), (2, .long y2), (4, .int x4), (5, .int x5), (7, .int x7), (8, .int x8)] [.long r1, .int x7] G1 _
    refine E_lload_n 1 dX12_isNear_43 rfl rfl ?_
    refine E_iload 5 dX12_isNear_44 rfl ?_
    refine E_callS (as := [.long y2, .int x8]) (st := [.long r1, .int x7]) cm_X12_letter cS_X12_301 rfl rfl (by decide) (Nat.le_of_ble_eq_true rfl) (Nat.le_of_ble_eq_true rfl) dX12_isNear_46 hB (fun r G2 hr => ?_)
    obtain ⟨r2, rfl, hE2, hB⟩ := hr
    have hL2 : Lay G2.2.2 := by rw [hE2]; exact hL1
    have hE2 : G2.2.2 = G.2.2 := hE2.trans hE1
    show Ev K mX12_isNear 2 49 [(0, .long y0), (2, .long y2), (4, .int x4), (5, .int x5), (7, .int x7), (8, .int x8)] [.long r2, .long r1, .int x7] G2 _
    refine E_lcmp dX12_isNear_49 ?_
    refine E_if_ne (tgt := 57) dX12_isNear_50 (by decide) (fun c => ?_) (fun c => ?_)
    · have hB := hB.1 ((fun q => c ((lgc_eq r1 r2).mpr q)))
      refine E_iconst (v := 1) dX12_isNear_57 (by decide) ?_
      refine E_sub (lv' := [(0, .long y0), (2, .long y2), (4, .int x4), (5, .int x5), (8, .int x8)]) [0, 1, 2, 3, 5] rfl ?_
      exact EvI.tr hB hE2
    · have hB := hB.2 ((lgc_eq r1 r2).mp c)
      refine E_iconst (v := 0) dX12_isNear_53 (by decide) ?_
      refine E_goto (tgt := 58) dX12_isNear_54 (by decide) ?_
      refine E_sub (lv' := [(0, .long y0), (2, .long y2), (4, .int x4), (5, .int x5), (8, .int x8)]) [0, 1, 2, 3, 5] rfl ?_
      exact EvI.tr hB hE2

set_option maxRecDepth 20000 in
set_option maxHeartbeats 2000000 in
theorem kX12_isNear_58 {K : KT} {G : St} {Q : Int32 → St → Prop} {y0 : Int64} {y2 : Int64} {x4 : Int32} {x5 : Int32} {x8 : Int32} {xs0 : Int32} {xs1 : Int32} (hL : Lay G.2.2) 
    (hB : EvI K mX12_isNear 2 28 [(0, .long y0), (2, .long y2), (4, .int x4), (5, .int x5), (7, .int (xs0 + xs1)), (8, .int (x8 + 1))] [] G Q) :
    EvI K mX12_isNear 2 58 [(0, .long y0), (2, .long y2), (4, .int x4), (5, .int x5), (8, .int x8)] [.int xs1, .int xs0] G Q := by
  refine E_iadd dX12_isNear_58 ?_
  refine E_istore (lv' := [(0, .long y0), (2, .long y2), (4, .int x4), (5, .int x5), (7, .int (xs0 + xs1)), (8, .int x8)]) dX12_isNear_59 (by decide) rfl ?_
  refine E_iinc (v := x8 + 1) (lv' := [(0, .long y0), (2, .long y2), (4, .int x4), (5, .int x5), (7, .int (xs0 + xs1)), (8, .int (x8 + 1))]) 5 dX12_isNear_61 rfl rfl (by decide) rfl ?_
  refine E_goto (tgt := 28) dX12_isNear_64 (by decide) ?_
  exact EvI.tr hB rfl

set_option maxRecDepth 20000 in
set_option maxHeartbeats 2000000 in
theorem kX12_isNear_83 {K : KT} {G : St} {Q : Int32 → St → Prop} {y0 : Int64} {y2 : Int64} {x4 : Int32} {x5 : Int32} {x6 : Int32} {x7 : Int32} (hL : Lay G.2.2) 
    (hB : ((x4 ≤ x7 → EvI K mX12_isNear 2 131 [(0, .long y0), (2, .long y2), (4, .int x4), (5, .int x5), (6, .int x6), (7, .int 0)] [] G Q) ∧ (¬ x4 ≤ x7 → ((¬ x4 = (x5 + 1) → EvI K mX12_isNear 2 131 [(0, .long y0), (2, .long y2), (4, .int x4), (5, .int x5), (6, .int x6), (7, .int 0)] [] G Q) ∧ (x4 = (x5 + 1) → ((¬ x6 = 0 → EvI K mX12_isNear 2 120 [(0, .long y0), (2, .long y2), (4, .int x4), (5, .int x5), (7, .int x7)] [.int 1] G Q) ∧ (x6 = 0 → EvL K mX12_without 1 0 [(0, .long y0), (2, .int x7)] [] G (fun r1 G1 => ((¬ r1 = y2 → EvI K mX12_isNear 2 120 [(0, .long y0), (2, .long y2), (4, .int x4), (5, .int x5), (7, .int x7)] [.int 0] G1 Q) ∧ (r1 = y2 → EvI K mX12_isNear 2 120 [(0, .long y0), (2, .long y2), (4, .int x4), (5, .int x5), (7, .int x7)] [.int 1] G1 Q)))))))))) :
    EvI K mX12_isNear 2 83 [(0, .long y0), (2, .long y2), (4, .int x4), (5, .int x5), (6, .int x6), (7, .int x7)] [] G Q := by
  refine E_iload 5 dX12_isNear_83 rfl ?_
  refine E_iload 2 dX12_isNear_85 rfl ?_
  refine E_icmp_ge (tgt := 128) dX12_isNear_87 (by decide) (fun c => ?_) (fun c => ?_)
  · have hB := hB.1 c
    refine E_iconst (v := 0) dX12_isNear_128 (by decide) ?_
    refine E_istore (lv' := [(0, .long y0), (2, .long y2), (4, .int x4), (5, .int x5), (6, .int x6), (7, .int 0)]) dX12_isNear_129 (by decide) rfl ?_
    exact EvI.tr hB rfl
  · have hB := hB.2 c
    refine E_iload 2 dX12_isNear_90 rfl ?_
    refine E_iload 3 dX12_isNear_92 rfl ?_
    refine E_iconst (v := 1) dX12_isNear_94 (by decide) ?_
    refine E_iadd dX12_isNear_95 ?_
    refine E_icmp_ne (tgt := 128) dX12_isNear_96 (by decide) (fun c => ?_) (fun c => ?_)
    · have hB := hB.1 c
      refine E_iconst (v := 0) dX12_isNear_128 (by decide) ?_
      refine E_istore (lv' := [(0, .long y0), (2, .long y2), (4, .int x4), (5, .int x5), (6, .int x6), (7, .int 0)]) dX12_isNear_129 (by decide) rfl ?_
      exact EvI.tr hB rfl
    · have hB := hB.2 c
      refine E_iload 4 dX12_isNear_99 rfl ?_
      refine E_if_ne (tgt := 115) dX12_isNear_101 (by decide) (fun c => ?_) (fun c => ?_)
      · have hB := hB.1 c
        refine E_iconst (v := 1) dX12_isNear_115 (by decide) ?_
        refine E_goto (tgt := 120) dX12_isNear_116 (by decide) ?_
        refine E_sub (lv' := [(0, .long y0), (2, .long y2), (4, .int x4), (5, .int x5), (7, .int x7)]) [0, 1, 2, 3, 5] rfl ?_
        exact EvI.tr hB rfl
      · have hB := hB.2 c
        refine E_lload_n 0 dX12_isNear_104 rfl rfl ?_
        refine E_iload 5 dX12_isNear_105 rfl ?_
        refine E_callS (as := [.long y0, .int x7]) (st := []) cm_X12_without cS_X12_305 rfl rfl (by decide) (Nat.le_of_ble_eq_true rfl) (Nat.le_of_ble_eq_true rfl) dX12_isNear_107 hB (fun r G1 hr => ?_)
        obtain ⟨r1, rfl, hE1, hB⟩ := hr
        have hL1 : Lay G1.2.2 := by rw [hE1]; exact hL
        have hE1 : G1.2.2 = G.2.2 := hE1
        show Ev K mX12_isNear 2 110 [(0, .long y0), (2, .long y2), (4, .int x4), (5, .int x5), (6, .int x6), (7, .int x7)] [.long r1] G1 _
        refine E_lload_n 1 dX12_isNear_110 rfl rfl ?_
        refine E_lcmp dX12_isNear_111 ?_
        refine E_if_ne (tgt := 119) dX12_isNear_112 (by decide) (fun c => ?_) (fun c => ?_)
        · have hB := hB.1 ((fun q => c ((lgc_eq r1 y2).mpr q)))
          refine E_iconst (v := 0) dX12_isNear_119 (by decide) ?_
          refine E_sub (lv' := [(0, .long y0), (2, .long y2), (4, .int x4), (5, .int x5), (7, .int x7)]) [0, 1, 2, 3, 5] rfl ?_
          exact EvI.tr hB hE1
        · have hB := hB.2 ((lgc_eq r1 y2).mp c)
          refine E_iconst (v := 1) dX12_isNear_115 (by decide) ?_
          refine E_goto (tgt := 120) dX12_isNear_116 (by decide) ?_
          refine E_sub (lv' := [(0, .long y0), (2, .long y2), (4, .int x4), (5, .int x5), (7, .int x7)]) [0, 1, 2, 3, 5] rfl ?_
          exact EvI.tr hB hE1

set_option maxRecDepth 20000 in
set_option maxHeartbeats 2000000 in
theorem kX12_isNear_120 {K : KT} {G : St} {Q : Int32 → St → Prop} {y0 : Int64} {y2 : Int64} {x4 : Int32} {x5 : Int32} {x7 : Int32} {xs0 : Int32} (hL : Lay G.2.2) 
    (hB : EvI K mX12_isNear 2 83 [(0, .long y0), (2, .long y2), (4, .int x4), (5, .int x5), (6, .int xs0), (7, .int (x7 + 1))] [] G Q) :
    EvI K mX12_isNear 2 120 [(0, .long y0), (2, .long y2), (4, .int x4), (5, .int x5), (7, .int x7)] [.int xs0] G Q := by
  refine E_istore (lv' := [(0, .long y0), (2, .long y2), (4, .int x4), (5, .int x5), (6, .int xs0), (7, .int x7)]) dX12_isNear_120 (by decide) rfl ?_
  refine E_iinc (v := x7 + 1) (lv' := [(0, .long y0), (2, .long y2), (4, .int x4), (5, .int x5), (6, .int xs0), (7, .int (x7 + 1))]) 5 dX12_isNear_122 rfl rfl (by decide) rfl ?_
  refine E_goto (tgt := 83) dX12_isNear_125 (by decide) ?_
  exact EvI.tr hB rfl

set_option maxRecDepth 20000 in
set_option maxHeartbeats 2000000 in
theorem kX12_isNear_131 {K : KT} {G : St} {Q : Int32 → St → Prop} {y0 : Int64} {y2 : Int64} {x4 : Int32} {x5 : Int32} {x6 : Int32} {x7 : Int32} (hL : Lay G.2.2) 
    (hB : ((x5 ≤ x7 → (x6 = 0 ∨ x6 = 1) ∧ Q x6 G) ∧ (¬ x5 ≤ x7 → ((¬ x5 = (x4 + 1) → (x6 = 0 ∨ x6 = 1) ∧ Q x6 G) ∧ (x5 = (x4 + 1) → ((¬ x6 = 0 → EvI K mX12_isNear 2 168 [(0, .long y0), (2, .long y2), (4, .int x4), (5, .int x5), (7, .int x7)] [.int 1] G Q) ∧ (x6 = 0 → EvL K mX12_without 1 0 [(0, .long y2), (2, .int x7)] [] G (fun r3 G3 => ((¬ r3 = y0 → EvI K mX12_isNear 2 168 [(0, .long y0), (2, .long y2), (4, .int x4), (5, .int x5), (7, .int x7)] [.int 0] G3 Q) ∧ (r3 = y0 → EvI K mX12_isNear 2 168 [(0, .long y0), (2, .long y2), (4, .int x4), (5, .int x5), (7, .int x7)] [.int 1] G3 Q)))))))))) :
    EvI K mX12_isNear 2 131 [(0, .long y0), (2, .long y2), (4, .int x4), (5, .int x5), (6, .int x6), (7, .int x7)] [] G Q := by
  refine E_iload 5 dX12_isNear_131 rfl ?_
  refine E_iload 3 dX12_isNear_133 rfl ?_
  refine E_icmp_ge (tgt := 176) dX12_isNear_135 (by decide) (fun c => ?_) (fun c => ?_)
  · have hB := hB.1 c
    refine E_iload 4 dX12_isNear_176 rfl ?_
    obtain ⟨qq1, hB⟩ := hB
    exact E_zret rfl qq1 dX12_isNear_178 ⟨_, rfl, rfl, hB⟩
  · have hB := hB.2 c
    refine E_iload 3 dX12_isNear_138 rfl ?_
    refine E_iload 2 dX12_isNear_140 rfl ?_
    refine E_iconst (v := 1) dX12_isNear_142 (by decide) ?_
    refine E_iadd dX12_isNear_143 ?_
    refine E_icmp_ne (tgt := 176) dX12_isNear_144 (by decide) (fun c => ?_) (fun c => ?_)
    · have hB := hB.1 c
      refine E_iload 4 dX12_isNear_176 rfl ?_
      obtain ⟨qq2, hB⟩ := hB
      exact E_zret rfl qq2 dX12_isNear_178 ⟨_, rfl, rfl, hB⟩
    · have hB := hB.2 c
      refine E_iload 4 dX12_isNear_147 rfl ?_
      refine E_if_ne (tgt := 163) dX12_isNear_149 (by decide) (fun c => ?_) (fun c => ?_)
      · have hB := hB.1 c
        refine E_iconst (v := 1) dX12_isNear_163 (by decide) ?_
        refine E_goto (tgt := 168) dX12_isNear_164 (by decide) ?_
        refine E_sub (lv' := [(0, .long y0), (2, .long y2), (4, .int x4), (5, .int x5), (7, .int x7)]) [0, 1, 2, 3, 5] rfl ?_
        exact EvI.tr hB rfl
      · have hB := hB.2 c
        refine E_lload_n 1 dX12_isNear_152 rfl rfl ?_
        refine E_iload 5 dX12_isNear_153 rfl ?_
        refine E_callS (as := [.long y2, .int x7]) (st := []) cm_X12_without cS_X12_305 rfl rfl (by decide) (Nat.le_of_ble_eq_true rfl) (Nat.le_of_ble_eq_true rfl) dX12_isNear_155 hB (fun r G3 hr => ?_)
        obtain ⟨r3, rfl, hE3, hB⟩ := hr
        have hL3 : Lay G3.2.2 := by rw [hE3]; exact hL
        have hE3 : G3.2.2 = G.2.2 := hE3
        show Ev K mX12_isNear 2 158 [(0, .long y0), (2, .long y2), (4, .int x4), (5, .int x5), (6, .int x6), (7, .int x7)] [.long r3] G3 _
        refine E_lload_n 0 dX12_isNear_158 rfl rfl ?_
        refine E_lcmp dX12_isNear_159 ?_
        refine E_if_ne (tgt := 167) dX12_isNear_160 (by decide) (fun c => ?_) (fun c => ?_)
        · have hB := hB.1 ((fun q => c ((lgc_eq r3 y0).mpr q)))
          refine E_iconst (v := 0) dX12_isNear_167 (by decide) ?_
          refine E_sub (lv' := [(0, .long y0), (2, .long y2), (4, .int x4), (5, .int x5), (7, .int x7)]) [0, 1, 2, 3, 5] rfl ?_
          exact EvI.tr hB hE3
        · have hB := hB.2 ((lgc_eq r3 y0).mp c)
          refine E_iconst (v := 1) dX12_isNear_163 (by decide) ?_
          refine E_goto (tgt := 168) dX12_isNear_164 (by decide) ?_
          refine E_sub (lv' := [(0, .long y0), (2, .long y2), (4, .int x4), (5, .int x5), (7, .int x7)]) [0, 1, 2, 3, 5] rfl ?_
          exact EvI.tr hB hE3

set_option maxRecDepth 20000 in
set_option maxHeartbeats 2000000 in
theorem kX12_isNear_168 {K : KT} {G : St} {Q : Int32 → St → Prop} {y0 : Int64} {y2 : Int64} {x4 : Int32} {x5 : Int32} {x7 : Int32} {xs0 : Int32} (hL : Lay G.2.2) 
    (hB : EvI K mX12_isNear 2 131 [(0, .long y0), (2, .long y2), (4, .int x4), (5, .int x5), (6, .int xs0), (7, .int (x7 + 1))] [] G Q) :
    EvI K mX12_isNear 2 168 [(0, .long y0), (2, .long y2), (4, .int x4), (5, .int x5), (7, .int x7)] [.int xs0] G Q := by
  refine E_istore (lv' := [(0, .long y0), (2, .long y2), (4, .int x4), (5, .int x5), (6, .int xs0), (7, .int x7)]) dX12_isNear_168 (by decide) rfl ?_
  refine E_iinc (v := x7 + 1) (lv' := [(0, .long y0), (2, .long y2), (4, .int x4), (5, .int x5), (6, .int xs0), (7, .int (x7 + 1))]) 5 dX12_isNear_170 rfl rfl (by decide) rfl ?_
  refine E_goto (tgt := 131) dX12_isNear_173 (by decide) ?_
  exact EvI.tr hB rfl

set_option maxRecDepth 20000 in
set_option maxHeartbeats 2000000 in
theorem kX12_hasS_0 {K : KT} {G : St} {Q : Int32 → St → Prop} {y0 : Int64} {y2 : Int64} (hL : Lay G.2.2) 
    (hB : ((¬ (y0 - y0 / 27 * 27) = 19 → Q 0 G) ∧ ((y0 - y0 / 27 * 27) = 19 → ((¬ (y0 / 27) = y2 → Q 0 G) ∧ ((y0 / 27) = y2 → Q 1 G))))) :
    EvI K mX12_hasS 0 0 [(0, .long y0), (2, .long y2)] [] G Q := by
  refine E_lload_n 0 dX12_hasS_0 rfl rfl ?_
  refine E_ldc2 (v := 27) tm_1495 dX12_hasS_1 ?_
  refine E_lrem dX12_hasS_4 (by decide) ?_
  refine E_ldc2 (v := 19) tm_1650 dX12_hasS_5 ?_
  refine E_lcmp dX12_hasS_8 ?_
  refine E_if_ne (tgt := 26) dX12_hasS_9 (by decide) (fun c => ?_) (fun c => ?_)
  · have hB := hB.1 ((fun q => c ((lgc_eq (y0 - y0 / 27 * 27) 19).mpr q)))
    refine E_iconst (v := 0) dX12_hasS_26 (by decide) ?_
    exact E_zret rfl (Or.inl rfl) dX12_hasS_27 ⟨_, rfl, rfl, hB⟩
  · have hB := hB.2 ((lgc_eq (y0 - y0 / 27 * 27) 19).mp c)
    refine E_lload_n 0 dX12_hasS_12 rfl rfl ?_
    refine E_ldc2 (v := 27) tm_1495 dX12_hasS_13 ?_
    refine E_ldiv dX12_hasS_16 (by decide) ?_
    refine E_lload_n 1 dX12_hasS_17 rfl rfl ?_
    refine E_lcmp dX12_hasS_18 ?_
    refine E_if_ne (tgt := 26) dX12_hasS_19 (by decide) (fun c => ?_) (fun c => ?_)
    · have hB := hB.1 ((fun q => c ((lgc_eq (y0 / 27) y2).mpr q)))
      refine E_iconst (v := 0) dX12_hasS_26 (by decide) ?_
      exact E_zret rfl (Or.inl rfl) dX12_hasS_27 ⟨_, rfl, rfl, hB⟩
    · have hB := hB.2 ((lgc_eq (y0 / 27) y2).mp c)
      refine E_iconst (v := 1) dX12_hasS_22 (by decide) ?_
      refine E_goto (tgt := 27) dX12_hasS_23 (by decide) ?_
      exact E_zret rfl (Or.inr rfl) dX12_hasS_27 ⟨_, rfl, rfl, hB⟩

set_option maxRecDepth 20000 in
set_option maxHeartbeats 2000000 in
theorem kX12_priceAt_0 {K : KT} {G : St} {Q : Int32 → St → Prop} {x1 : Int32} {x2 : Int32} (hL : Lay G.2.2) 
    (hB : vp_in x2 8 ∧ vp_in x1 31 ∧ EvI K mX12_priceAt 3 21 [(0, .ref 66), (1, .int x1), (2, .int x2), (3, .int (-1)), (4, .long (sL G 80 (Int32.toNatClampNeg x2))), (6, .int (sI G 77 (Int32.toNatClampNeg x1))), (7, .int 0)] [] G Q) :
    EvI K mX12_priceAt 3 0 [(0, .ref 66), (1, .int x1), (2, .int x2)] [] G Q := by
  refine E_iconst (v := (-1)) dX12_priceAt_0 (by decide) ?_
  refine E_istore_n (lv' := [(0, .ref 66), (1, .int x1), (2, .int x2), (3, .int (-1))]) dX12_priceAt_1 rfl (by decide) rfl ?_
  refine E_aload_n 0 dX12_priceAt_2 rfl rfl rfl ?_
  refine E_gR (j := 80) fG_X12_77 rfl (lo_66 hL) (lr_66_23 hL) (by decide) dX12_priceAt_3 ?_
  refine E_iload_n 2 dX12_priceAt_6 rfl rfl ?_
  obtain ⟨qq1, hB⟩ := hB
  refine E_aL (p := Int32.toNatClampNeg x2) (v := sL G 80 (Int32.toNatClampNeg x2)) (la_80 hL) qq1 rfl rfl dX12_priceAt_7 ?_
  refine E_lstore (lv' := [(0, .ref 66), (1, .int x1), (2, .int x2), (3, .int (-1)), (4, .long (sL G 80 (Int32.toNatClampNeg x2)))]) dX12_priceAt_8 (by decide) rfl ?_
  refine E_aload_n 0 dX12_priceAt_10 rfl rfl rfl ?_
  refine E_gR (j := 77) fG_X12_68 rfl (lo_66 hL) (lr_66_18 hL) (by decide) dX12_priceAt_11 ?_
  refine E_iload_n 1 dX12_priceAt_14 rfl rfl ?_
  obtain ⟨qq2, hB⟩ := hB
  refine E_aI (p := Int32.toNatClampNeg x1) (v := sI G 77 (Int32.toNatClampNeg x1)) (la_77 hL) qq2 rfl rfl dX12_priceAt_15 ?_
  refine E_istore (lv' := [(0, .ref 66), (1, .int x1), (2, .int x2), (3, .int (-1)), (4, .long (sL G 80 (Int32.toNatClampNeg x2))), (6, .int (sI G 77 (Int32.toNatClampNeg x1)))]) dX12_priceAt_16 (by decide) rfl ?_
  refine E_iconst (v := 0) dX12_priceAt_18 (by decide) ?_
  refine E_istore (lv' := [(0, .ref 66), (1, .int x1), (2, .int x2), (3, .int (-1)), (4, .long (sL G 80 (Int32.toNatClampNeg x2))), (6, .int (sI G 77 (Int32.toNatClampNeg x1))), (7, .int 0)]) dX12_priceAt_19 (by decide) rfl ?_
  exact EvI.tr hB rfl

set_option maxRecDepth 20000 in
set_option maxHeartbeats 2000000 in
theorem kX12_priceAt_21 {K : KT} {G : St} {Q : Int32 → St → Prop} {x1 : Int32} {x2 : Int32} {x3 : Int32} {y4 : Int64} {x6 : Int32} {x7 : Int32} (hL : Lay G.2.2) 
    (hB : vp_in x6 10 ∧ (((sI G 74 (Int32.toNatClampNeg x6)) ≤ x7 → EvI K mX12_priceAt 3 236 [(0, .ref 66), (2, .int x2), (3, .int x3), (4, .long y4), (6, .int x6), (7, .int 0)] [] G Q) ∧ (¬ (sI G 74 (Int32.toNatClampNeg x6)) ≤ x7 → vp_in ((4 * x1) + x7) 124 ∧ EvI K mX12_kindOf 0 0 [(0, .ref 66), (1, .int x1), (2, .int x7)] [] G (fun r3 G3 => vp_in x2 8 ∧ (((sI G3 79 (Int32.toNatClampNeg x2)) = 2 → EvI K mX12_priceAt 3 75 [(0, .ref 66), (1, .int x1), (2, .int x2), (3, .int x3), (4, .long y4), (6, .int x6), (7, .int x7), (8, .long (sL G 78 (Int32.toNatClampNeg ((4 * x1) + x7)))), (10, .int r3)] [] G3 Q) ∧ (¬ (sI G3 79 (Int32.toNatClampNeg x2)) = 2 → vp_in x2 8 ∧ ((¬ (sI G3 79 (Int32.toNatClampNeg x2)) = 3 → ((¬ r3 = 5 → EvI K mX12_priceAt 3 151 [(0, .ref 66), (1, .int x1), (2, .int x2), (3, .int x3), (4, .long y4), (6, .int x6), (7, .int x7), (8, .long (sL G 78 (Int32.toNatClampNeg ((4 * x1) + x7)))), (10, .int r3)] [] G3 Q) ∧ (r3 = 5 → ((¬ (sL G 78 (Int32.toNatClampNeg ((4 * x1) + x7))) = y4 → EvI K mX12_priceAt 3 151 [(0, .ref 66), (1, .int x1), (2, .int x2), (3, .int x3), (4, .long y4), (6, .int x6), (7, .int x7), (8, .long (sL G 78 (Int32.toNatClampNeg ((4 * x1) + x7)))), (10, .int r3)] [] G3 Q) ∧ ((sL G 78 (Int32.toNatClampNeg ((4 * x1) + x7))) = y4 → EvI K mX12_priceAt 3 227 [(0, .ref 66), (1, .int x1), (2, .int x2), (3, .int 0), (4, .long y4), (6, .int x6), (7, .int x7)] [] G3 Q))))) ∧ ((sI G3 79 (Int32.toNatClampNeg x2)) = 3 → EvI K mX12_priceAt 3 75 [(0, .ref 66), (1, .int x1), (2, .int x2), (3, .int x3), (4, .long y4), (6, .int x6), (7, .int x7), (8, .long (sL G 78 (Int32.toNatClampNeg ((4 * x1) + x7)))), (10, .int r3)] [] G3 Q)))))))) :
    EvI K mX12_priceAt 3 21 [(0, .ref 66), (1, .int x1), (2, .int x2), (3, .int x3), (4, .long y4), (6, .int x6), (7, .int x7)] [] G Q := by
  refine E_iload 6 dX12_priceAt_21 rfl ?_
  refine E_aload_n 0 dX12_priceAt_23 rfl rfl rfl ?_
  refine E_gR (j := 74) fG_X12_59 rfl (lo_66 hL) (lr_66_12 hL) (by decide) dX12_priceAt_24 ?_
  refine E_iload 5 dX12_priceAt_27 rfl ?_
  obtain ⟨qq1, hB⟩ := hB
  refine E_aI (p := Int32.toNatClampNeg x6) (v := sI G 74 (Int32.toNatClampNeg x6)) (la_74 hL) qq1 rfl rfl dX12_priceAt_29 ?_
  refine E_icmp_ge (tgt := 233) dX12_priceAt_30 (by decide) (fun c => ?_) (fun c => ?_)
  · have hB := hB.1 c
    refine E_iconst (v := 0) dX12_priceAt_233 (by decide) ?_
    refine E_istore (lv' := [(0, .ref 66), (1, .int x1), (2, .int x2), (3, .int x3), (4, .long y4), (6, .int x6), (7, .int 0)]) dX12_priceAt_234 (by decide) rfl ?_
    refine E_sub (lv' := [(0, .ref 66), (2, .int x2), (3, .int x3), (4, .long y4), (6, .int x6), (7, .int 0)]) [0, 2, 3, 4, 5, 6] rfl ?_
    exact EvI.tr hB rfl
  · have hB := hB.2 c
    refine E_aload_n 0 dX12_priceAt_33 rfl rfl rfl ?_
    refine E_gR (j := 78) fG_X12_71 rfl (lo_66 hL) (lr_66_19 hL) (by decide) dX12_priceAt_34 ?_
    refine E_iconst (v := 4) dX12_priceAt_37 (by decide) ?_
    refine E_iload_n 1 dX12_priceAt_38 rfl rfl ?_
    refine E_imul dX12_priceAt_39 ?_
    refine E_iload 6 dX12_priceAt_40 rfl ?_
    refine E_iadd dX12_priceAt_42 ?_
    obtain ⟨qq2, hB⟩ := hB
    refine E_aL (p := Int32.toNatClampNeg ((4 * x1) + x7)) (v := sL G 78 (Int32.toNatClampNeg ((4 * x1) + x7))) (la_78 hL) qq2 rfl rfl dX12_priceAt_43 ?_
    refine E_lstore (lv' := [(0, .ref 66), (1, .int x1), (2, .int x2), (3, .int x3), (4, .long y4), (6, .int x6), (7, .int x7), (8, .long (sL G 78 (Int32.toNatClampNeg ((4 * x1) + x7))))]) dX12_priceAt_44 (by decide) rfl ?_
    refine E_aload_n 0 dX12_priceAt_46 rfl rfl rfl ?_
    refine E_iload_n 1 dX12_priceAt_47 rfl rfl ?_
    refine E_iload 6 dX12_priceAt_48 rfl ?_
    refine E_cV (ci := 11) (as := [.int x1, .int x7]) (st := []) cm_X12_kindOf cV_X12_290 ⟨_, _, rfl⟩ (by decide) (lo_66 hL) rfl rfl (by decide) (Nat.le_of_ble_eq_true rfl) (Nat.le_of_ble_eq_true rfl) dX12_priceAt_50 hB (fun r G3 hr => ?_)
    obtain ⟨r3, rfl, hE3, hB⟩ := hr
    have hL3 : Lay G3.2.2 := by rw [hE3]; exact hL
    have hE3 : G3.2.2 = G.2.2 := hE3
    show Ev K mX12_priceAt 3 53 [(0, .ref 66), (1, .int x1), (2, .int x2), (3, .int x3), (4, .long y4), (6, .int x6), (7, .int x7), (8, .long (sL G 78 (Int32.toNatClampNeg ((4 * x1) + x7))))] [.int r3] G3 _
    refine E_istore (lv' := [(0, .ref 66), (1, .int x1), (2, .int x2), (3, .int x3), (4, .long y4), (6, .int x6), (7, .int x7), (8, .long (sL G 78 (Int32.toNatClampNeg ((4 * x1) + x7)))), (10, .int r3)]) dX12_priceAt_53 (by decide) rfl ?_
    refine E_aload_n 0 dX12_priceAt_55 rfl rfl rfl ?_
    refine E_gR (j := 79) fG_X12_74 rfl (lo_66 hL3) (lr_66_22 hL3) (by decide) dX12_priceAt_56 ?_
    refine E_iload_n 2 dX12_priceAt_59 rfl rfl ?_
    obtain ⟨qq4, hB⟩ := hB
    refine E_aI (p := Int32.toNatClampNeg x2) (v := sI G3 79 (Int32.toNatClampNeg x2)) (la_79 hL3) qq4 rfl rfl dX12_priceAt_60 ?_
    refine E_iconst (v := 2) dX12_priceAt_61 (by decide) ?_
    refine E_icmp_eq (tgt := 75) dX12_priceAt_62 (by decide) (fun c => ?_) (fun c => ?_)
    · have hB := hB.1 c
      exact EvI.tr hB hE3
    · have hB := hB.2 c
      refine E_aload_n 0 dX12_priceAt_65 rfl rfl rfl ?_
      refine E_gR (j := 79) fG_X12_74 rfl (lo_66 hL3) (lr_66_22 hL3) (by decide) dX12_priceAt_66 ?_
      refine E_iload_n 2 dX12_priceAt_69 rfl rfl ?_
      obtain ⟨qq5, hB⟩ := hB
      refine E_aI (p := Int32.toNatClampNeg x2) (v := sI G3 79 (Int32.toNatClampNeg x2)) (la_79 hL3) qq5 rfl rfl dX12_priceAt_70 ?_
      refine E_iconst (v := 3) dX12_priceAt_71 (by decide) ?_
      refine E_icmp_ne (tgt := 132) dX12_priceAt_72 (by decide) (fun c => ?_) (fun c => ?_)
      · have hB := hB.1 c
        refine E_iload 8 dX12_priceAt_132 rfl ?_
        refine E_iconst (v := 5) dX12_priceAt_134 (by decide) ?_
        refine E_icmp_ne (tgt := 151) dX12_priceAt_135 (by decide) (fun c => ?_) (fun c => ?_)
        · have hB := hB.1 c
          exact EvI.tr hB hE3
        · have hB := hB.2 c
          refine E_lload 7 dX12_priceAt_138 rfl ?_
          refine E_lload 4 dX12_priceAt_140 rfl ?_
          refine E_lcmp dX12_priceAt_142 ?_
          refine E_if_ne (tgt := 151) dX12_priceAt_143 (by decide) (fun c => ?_) (fun c => ?_)
          · have hB := hB.1 ((fun q => c ((lgc_eq (sL G 78 (Int32.toNatClampNeg ((4 * x1) + x7))) y4).mpr q)))
            exact EvI.tr hB hE3
          · have hB := hB.2 ((lgc_eq (sL G 78 (Int32.toNatClampNeg ((4 * x1) + x7))) y4).mp c)
            refine E_iconst (v := 0) dX12_priceAt_146 (by decide) ?_
            refine E_istore_n (lv' := [(0, .ref 66), (1, .int x1), (2, .int x2), (3, .int 0), (4, .long y4), (6, .int x6), (7, .int x7), (8, .long (sL G 78 (Int32.toNatClampNeg ((4 * x1) + x7)))), (10, .int r3)]) dX12_priceAt_147 rfl (by decide) rfl ?_
            refine E_goto (tgt := 227) dX12_priceAt_148 (by decide) ?_
            refine E_sub (lv' := [(0, .ref 66), (1, .int x1), (2, .int x2), (3, .int 0), (4, .long y4), (6, .int x6), (7, .int x7)]) [0, 1, 2, 3, 4, 5, 6] rfl ?_
            exact EvI.tr hB hE3
      · have hB := hB.2 c
        exact EvI.tr hB hE3

set_option maxRecDepth 20000 in
set_option maxHeartbeats 2000000 in
theorem kX12_priceAt_75 {K : KT} {G : St} {Q : Int32 → St → Prop} {x1 : Int32} {x2 : Int32} {x3 : Int32} {y4 : Int64} {x6 : Int32} {x7 : Int32} {y8 : Int64} {x10 : Int32} (hL : Lay G.2.2) 
    (hB : ((¬ x10 = 6 → EvI K mX12_priceAt 3 115 [(0, .ref 66), (1, .int x1), (2, .int x2), (3, .int x3), (4, .long y4), (6, .int x6), (7, .int x7)] [] G Q) ∧ (x10 = 6 → vp_in x2 8 ∧ ((¬ (sI G 79 (Int32.toNatClampNeg x2)) = 2 → ((¬ y8 < y4 → EvI K mX12_priceAt 3 115 [(0, .ref 66), (1, .int x1), (2, .int x2), (3, .int x3), (4, .long y4), (6, .int x6), (7, .int x7)] [] G Q) ∧ (y8 < y4 → EvI K mX12_priceAt 3 116 [(0, .ref 66), (1, .int x1), (2, .int x2), (3, .int x3), (4, .long y4), (6, .int x6), (7, .int x7)] [.int 1] G Q))) ∧ ((sI G 79 (Int32.toNatClampNeg x2)) = 2 → ((¬ y4 < y8 → EvI K mX12_priceAt 3 115 [(0, .ref 66), (1, .int x1), (2, .int x2), (3, .int x3), (4, .long y4), (6, .int x6), (7, .int x7)] [] G Q) ∧ (y4 < y8 → EvI K mX12_priceAt 3 116 [(0, .ref 66), (1, .int x1), (2, .int x2), (3, .int x3), (4, .long y4), (6, .int x6), (7, .int x7)] [.int 1] G Q))))))) :
    EvI K mX12_priceAt 3 75 [(0, .ref 66), (1, .int x1), (2, .int x2), (3, .int x3), (4, .long y4), (6, .int x6), (7, .int x7), (8, .long y8), (10, .int x10)] [] G Q := by
  refine E_iload 8 dX12_priceAt_75 rfl ?_
  refine E_bipush (v := 6) dX12_priceAt_77 (by decide) ?_
  refine E_icmp_ne (tgt := 115) dX12_priceAt_79 (by decide) (fun c => ?_) (fun c => ?_)
  · have hB := hB.1 c
    refine E_sub (lv' := [(0, .ref 66), (1, .int x1), (2, .int x2), (3, .int x3), (4, .long y4), (6, .int x6), (7, .int x7)]) [0, 1, 2, 3, 4, 5, 6] rfl ?_
    exact EvI.tr hB rfl
  · have hB := hB.2 c
    refine E_aload_n 0 dX12_priceAt_82 rfl rfl rfl ?_
    refine E_gR (j := 79) fG_X12_74 rfl (lo_66 hL) (lr_66_22 hL) (by decide) dX12_priceAt_83 ?_
    refine E_iload_n 2 dX12_priceAt_86 rfl rfl ?_
    obtain ⟨qq1, hB⟩ := hB
    refine E_aI (p := Int32.toNatClampNeg x2) (v := sI G 79 (Int32.toNatClampNeg x2)) (la_79 hL) qq1 rfl rfl dX12_priceAt_87 ?_
    refine E_iconst (v := 2) dX12_priceAt_88 (by decide) ?_
    refine E_icmp_ne (tgt := 103) dX12_priceAt_89 (by decide) (fun c => ?_) (fun c => ?_)
    · have hB := hB.1 c
      refine E_lload 7 dX12_priceAt_103 rfl ?_
      refine E_lload 4 dX12_priceAt_105 rfl ?_
      refine E_lcmp dX12_priceAt_107 ?_
      refine E_if_ge (tgt := 115) dX12_priceAt_108 (by decide) (fun c => ?_) (fun c => ?_)
      · have hB := hB.1 ((fun q => absurd ((lgc_lt y8 y4).mpr q) (Int32.not_lt.mpr c)))
        refine E_sub (lv' := [(0, .ref 66), (1, .int x1), (2, .int x2), (3, .int x3), (4, .long y4), (6, .int x6), (7, .int x7)]) [0, 1, 2, 3, 4, 5, 6] rfl ?_
        exact EvI.tr hB rfl
      · have hB := hB.2 ((lgc_lt y8 y4).mp (Int32.not_le.mp c))
        refine E_iconst (v := 1) dX12_priceAt_111 (by decide) ?_
        refine E_goto (tgt := 116) dX12_priceAt_112 (by decide) ?_
        refine E_sub (lv' := [(0, .ref 66), (1, .int x1), (2, .int x2), (3, .int x3), (4, .long y4), (6, .int x6), (7, .int x7)]) [0, 1, 2, 3, 4, 5, 6] rfl ?_
        exact EvI.tr hB rfl
    · have hB := hB.2 c
      refine E_lload 7 dX12_priceAt_92 rfl ?_
      refine E_lload 4 dX12_priceAt_94 rfl ?_
      refine E_lcmp dX12_priceAt_96 ?_
      refine E_if_le (tgt := 115) dX12_priceAt_97 (by decide) (fun c => ?_) (fun c => ?_)
      · have hB := hB.1 ((fun q => absurd ((lgc_gt y8 y4).mpr q) (Int32.not_lt.mpr c)))
        refine E_sub (lv' := [(0, .ref 66), (1, .int x1), (2, .int x2), (3, .int x3), (4, .long y4), (6, .int x6), (7, .int x7)]) [0, 1, 2, 3, 4, 5, 6] rfl ?_
        exact EvI.tr hB rfl
      · have hB := hB.2 ((lgc_gt y8 y4).mp (Int32.not_le.mp c))
        refine E_goto (tgt := 111) dX12_priceAt_100 (by decide) ?_
        refine E_iconst (v := 1) dX12_priceAt_111 (by decide) ?_
        refine E_goto (tgt := 116) dX12_priceAt_112 (by decide) ?_
        refine E_sub (lv' := [(0, .ref 66), (1, .int x1), (2, .int x2), (3, .int x3), (4, .long y4), (6, .int x6), (7, .int x7)]) [0, 1, 2, 3, 4, 5, 6] rfl ?_
        exact EvI.tr hB rfl

set_option maxRecDepth 20000 in
set_option maxHeartbeats 2000000 in
theorem kX12_priceAt_115 {K : KT} {G : St} {Q : Int32 → St → Prop} {x1 : Int32} {x2 : Int32} {x3 : Int32} {y4 : Int64} {x6 : Int32} {x7 : Int32} (hL : Lay G.2.2) 
    (hB : EvI K mX12_priceAt 3 116 [(0, .ref 66), (1, .int x1), (2, .int x2), (3, .int x3), (4, .long y4), (6, .int x6), (7, .int x7)] [.int 0] G Q) :
    EvI K mX12_priceAt 3 115 [(0, .ref 66), (1, .int x1), (2, .int x2), (3, .int x3), (4, .long y4), (6, .int x6), (7, .int x7)] [] G Q := by
  refine E_iconst (v := 0) dX12_priceAt_115 (by decide) ?_
  exact EvI.tr hB rfl

set_option maxRecDepth 20000 in
set_option maxHeartbeats 2000000 in
theorem kX12_priceAt_116 {K : KT} {G : St} {Q : Int32 → St → Prop} {x1 : Int32} {x2 : Int32} {x3 : Int32} {y4 : Int64} {x6 : Int32} {x7 : Int32} {xs0 : Int32} (hL : Lay G.2.2) 
    (hB : ((xs0 = 0 → EvI K mX12_priceAt 3 227 [(0, .ref 66), (1, .int x1), (2, .int x2), (3, .int x3), (4, .long y4), (6, .int x6), (7, .int x7)] [] G Q) ∧ (¬ xs0 = 0 → EvI K mX12_priceAt 3 227 [(0, .ref 66), (1, .int x1), (2, .int x2), (3, .int 1), (4, .long y4), (6, .int x6), (7, .int x7)] [] G Q))) :
    EvI K mX12_priceAt 3 116 [(0, .ref 66), (1, .int x1), (2, .int x2), (3, .int x3), (4, .long y4), (6, .int x6), (7, .int x7)] [.int xs0] G Q := by
  refine E_istore (lv' := [(0, .ref 66), (1, .int x1), (2, .int x2), (3, .int x3), (4, .long y4), (6, .int x6), (7, .int x7), (11, .int xs0)]) dX12_priceAt_116 (by decide) rfl ?_
  refine E_iload 7 dX12_priceAt_118 rfl ?_
  refine E_if_eq (tgt := 127) dX12_priceAt_120 (by decide) (fun c => ?_) (fun c => ?_)
  · have hB := hB.1 c
    refine E_iload_n 3 dX12_priceAt_127 rfl rfl ?_
    refine E_istore_n (lv' := [(0, .ref 66), (1, .int x1), (2, .int x2), (3, .int x3), (4, .long y4), (6, .int x6), (7, .int x7), (11, .int xs0)]) dX12_priceAt_128 rfl (by decide) rfl ?_
    refine E_goto (tgt := 227) dX12_priceAt_129 (by decide) ?_
    refine E_sub (lv' := [(0, .ref 66), (1, .int x1), (2, .int x2), (3, .int x3), (4, .long y4), (6, .int x6), (7, .int x7)]) [0, 1, 2, 3, 4, 5, 6] rfl ?_
    exact EvI.tr hB rfl
  · have hB := hB.2 c
    refine E_iconst (v := 1) dX12_priceAt_123 (by decide) ?_
    refine E_goto (tgt := 128) dX12_priceAt_124 (by decide) ?_
    refine E_istore_n (lv' := [(0, .ref 66), (1, .int x1), (2, .int x2), (3, .int 1), (4, .long y4), (6, .int x6), (7, .int x7), (11, .int xs0)]) dX12_priceAt_128 rfl (by decide) rfl ?_
    refine E_goto (tgt := 227) dX12_priceAt_129 (by decide) ?_
    refine E_sub (lv' := [(0, .ref 66), (1, .int x1), (2, .int x2), (3, .int 1), (4, .long y4), (6, .int x6), (7, .int x7)]) [0, 1, 2, 3, 4, 5, 6] rfl ?_
    exact EvI.tr hB rfl

set_option maxRecDepth 20000 in
set_option maxHeartbeats 2000000 in
theorem kX12_priceAt_151 {K : KT} {G : St} {Q : Int32 → St → Prop} {x1 : Int32} {x2 : Int32} {x3 : Int32} {y4 : Int64} {x6 : Int32} {x7 : Int32} {y8 : Int64} {x10 : Int32} (hL : Lay G.2.2) 
    (hB : ((¬ x10 = 5 → EvI K mX12_priceAt 3 186 [(0, .ref 66), (1, .int x1), (2, .int x2), (3, .int x3), (4, .long y4), (6, .int x6), (7, .int x7), (8, .long y8), (10, .int x10)] [] G Q) ∧ (x10 = 5 → vp_in x2 8 ∧ ((¬ (sI G 79 (Int32.toNatClampNeg x2)) = 1 → EvI K mX12_priceAt 3 186 [(0, .ref 66), (1, .int x1), (2, .int x2), (3, .int x3), (4, .long y4), (6, .int x6), (7, .int x7), (8, .long y8), (10, .int x10)] [] G Q) ∧ ((sI G 79 (Int32.toNatClampNeg x2)) = 1 → EvI K mX12_isNear 2 0 [(0, .long y8), (2, .long y4)] [] G (fun r2 G2 => ((r2 = 0 → EvI K mX12_priceAt 3 186 [(0, .ref 66), (1, .int x1), (2, .int x2), (3, .int x3), (4, .long y4), (6, .int x6), (7, .int x7), (8, .long y8), (10, .int x10)] [] G2 Q) ∧ (¬ r2 = 0 → EvI K mX12_least 0 0 [(0, .int x3), (1, .int 2)] [] G2 (fun r3 G3 => EvI K mX12_priceAt 3 227 [(0, .ref 66), (1, .int x1), (2, .int x2), (3, .int r3), (4, .long y4), (6, .int x6), (7, .int x7)] [] G3 Q))))))))) :
    EvI K mX12_priceAt 3 151 [(0, .ref 66), (1, .int x1), (2, .int x2), (3, .int x3), (4, .long y4), (6, .int x6), (7, .int x7), (8, .long y8), (10, .int x10)] [] G Q := by
  refine E_iload 8 dX12_priceAt_151 rfl ?_
  refine E_iconst (v := 5) dX12_priceAt_153 (by decide) ?_
  refine E_icmp_ne (tgt := 186) dX12_priceAt_154 (by decide) (fun c => ?_) (fun c => ?_)
  · have hB := hB.1 c
    exact EvI.tr hB rfl
  · have hB := hB.2 c
    refine E_aload_n 0 dX12_priceAt_157 rfl rfl rfl ?_
    refine E_gR (j := 79) fG_X12_74 rfl (lo_66 hL) (lr_66_22 hL) (by decide) dX12_priceAt_158 ?_
    refine E_iload_n 2 dX12_priceAt_161 rfl rfl ?_
    obtain ⟨qq1, hB⟩ := hB
    refine E_aI (p := Int32.toNatClampNeg x2) (v := sI G 79 (Int32.toNatClampNeg x2)) (la_79 hL) qq1 rfl rfl dX12_priceAt_162 ?_
    refine E_iconst (v := 1) dX12_priceAt_163 (by decide) ?_
    refine E_icmp_ne (tgt := 186) dX12_priceAt_164 (by decide) (fun c => ?_) (fun c => ?_)
    · have hB := hB.1 c
      exact EvI.tr hB rfl
    · have hB := hB.2 c
      refine E_lload 7 dX12_priceAt_167 rfl ?_
      refine E_lload 4 dX12_priceAt_169 rfl ?_
      refine E_callS (as := [.long y8, .long y4]) (st := []) cm_X12_isNear cS_X12_310 rfl rfl (by decide) (Nat.le_of_ble_eq_true rfl) (Nat.le_of_ble_eq_true rfl) dX12_priceAt_171 hB (fun r G2 hr => ?_)
      obtain ⟨r2, rfl, hE2, hB⟩ := hr
      have hL2 : Lay G2.2.2 := by rw [hE2]; exact hL
      have hE2 : G2.2.2 = G.2.2 := hE2
      show Ev K mX12_priceAt 3 174 [(0, .ref 66), (1, .int x1), (2, .int x2), (3, .int x3), (4, .long y4), (6, .int x6), (7, .int x7), (8, .long y8), (10, .int x10)] [.int r2] G2 _
      refine E_if_eq (tgt := 186) dX12_priceAt_174 (by decide) (fun c => ?_) (fun c => ?_)
      · have hB := hB.1 c
        exact EvI.tr hB hE2
      · have hB := hB.2 c
        refine E_iload_n 3 dX12_priceAt_177 rfl rfl ?_
        refine E_iconst (v := 2) dX12_priceAt_178 (by decide) ?_
        refine E_callS (as := [.int x3, .int 2]) (st := []) cm_X12_least cS_X12_314 rfl rfl (by decide) (Nat.le_of_ble_eq_true rfl) (Nat.le_of_ble_eq_true rfl) dX12_priceAt_179 hB (fun r G3 hr => ?_)
        obtain ⟨r3, rfl, hE3, hB⟩ := hr
        have hL3 : Lay G3.2.2 := by rw [hE3]; exact hL2
        have hE3 : G3.2.2 = G.2.2 := hE3.trans hE2
        show Ev K mX12_priceAt 3 182 [(0, .ref 66), (1, .int x1), (2, .int x2), (3, .int x3), (4, .long y4), (6, .int x6), (7, .int x7), (8, .long y8), (10, .int x10)] [.int r3] G3 _
        refine E_istore_n (lv' := [(0, .ref 66), (1, .int x1), (2, .int x2), (3, .int r3), (4, .long y4), (6, .int x6), (7, .int x7), (8, .long y8), (10, .int x10)]) dX12_priceAt_182 rfl (by decide) rfl ?_
        refine E_goto (tgt := 227) dX12_priceAt_183 (by decide) ?_
        refine E_sub (lv' := [(0, .ref 66), (1, .int x1), (2, .int x2), (3, .int r3), (4, .long y4), (6, .int x6), (7, .int x7)]) [0, 1, 2, 3, 4, 5, 6] rfl ?_
        exact EvI.tr hB hE3

set_option maxRecDepth 20000 in
set_option maxHeartbeats 2000000 in
theorem kX12_priceAt_186 {K : KT} {G : St} {Q : Int32 → St → Prop} {x1 : Int32} {x2 : Int32} {x3 : Int32} {y4 : Int64} {x6 : Int32} {x7 : Int32} {y8 : Int64} {x10 : Int32} (hL : Lay G.2.2) 
    (hB : ((¬ x10 = 5 → EvI K mX12_priceAt 3 227 [(0, .ref 66), (1, .int x1), (2, .int x2), (3, .int x3), (4, .long y4), (6, .int x6), (7, .int x7)] [] G Q) ∧ (x10 = 5 → vp_in x2 8 ∧ ((¬ (sI G 79 (Int32.toNatClampNeg x2)) = 0 → EvI K mX12_priceAt 3 227 [(0, .ref 66), (1, .int x1), (2, .int x2), (3, .int x3), (4, .long y4), (6, .int x6), (7, .int x7)] [] G Q) ∧ ((sI G 79 (Int32.toNatClampNeg x2)) = 0 → EvI K mX12_hasS 0 0 [(0, .long y8), (2, .long y4)] [] G (fun r2 G2 => ((¬ r2 = 0 → EvI K mX12_priceAt 3 221 [(0, .ref 66), (1, .int x1), (2, .int x2), (3, .int x3), (4, .long y4), (6, .int x6), (7, .int x7)] [] G2 Q) ∧ (r2 = 0 → EvI K mX12_hasS 0 0 [(0, .long y4), (2, .long y8)] [] G2 (fun r3 G3 => ((r3 = 0 → EvI K mX12_priceAt 3 227 [(0, .ref 66), (1, .int x1), (2, .int x2), (3, .int x3), (4, .long y4), (6, .int x6), (7, .int x7)] [] G3 Q) ∧ (¬ r3 = 0 → EvI K mX12_priceAt 3 221 [(0, .ref 66), (1, .int x1), (2, .int x2), (3, .int x3), (4, .long y4), (6, .int x6), (7, .int x7)] [] G3 Q))))))))))) :
    EvI K mX12_priceAt 3 186 [(0, .ref 66), (1, .int x1), (2, .int x2), (3, .int x3), (4, .long y4), (6, .int x6), (7, .int x7), (8, .long y8), (10, .int x10)] [] G Q := by
  refine E_iload 8 dX12_priceAt_186 rfl ?_
  refine E_iconst (v := 5) dX12_priceAt_188 (by decide) ?_
  refine E_icmp_ne (tgt := 227) dX12_priceAt_189 (by decide) (fun c => ?_) (fun c => ?_)
  · have hB := hB.1 c
    refine E_sub (lv' := [(0, .ref 66), (1, .int x1), (2, .int x2), (3, .int x3), (4, .long y4), (6, .int x6), (7, .int x7)]) [0, 1, 2, 3, 4, 5, 6] rfl ?_
    exact EvI.tr hB rfl
  · have hB := hB.2 c
    refine E_aload_n 0 dX12_priceAt_192 rfl rfl rfl ?_
    refine E_gR (j := 79) fG_X12_74 rfl (lo_66 hL) (lr_66_22 hL) (by decide) dX12_priceAt_193 ?_
    refine E_iload_n 2 dX12_priceAt_196 rfl rfl ?_
    obtain ⟨qq1, hB⟩ := hB
    refine E_aI (p := Int32.toNatClampNeg x2) (v := sI G 79 (Int32.toNatClampNeg x2)) (la_79 hL) qq1 rfl rfl dX12_priceAt_197 ?_
    refine E_if_ne (tgt := 227) dX12_priceAt_198 (by decide) (fun c => ?_) (fun c => ?_)
    · have hB := hB.1 c
      refine E_sub (lv' := [(0, .ref 66), (1, .int x1), (2, .int x2), (3, .int x3), (4, .long y4), (6, .int x6), (7, .int x7)]) [0, 1, 2, 3, 4, 5, 6] rfl ?_
      exact EvI.tr hB rfl
    · have hB := hB.2 c
      refine E_lload 7 dX12_priceAt_201 rfl ?_
      refine E_lload 4 dX12_priceAt_203 rfl ?_
      refine E_callS (as := [.long y8, .long y4]) (st := []) cm_X12_hasS cS_X12_317 rfl rfl (by decide) (Nat.le_of_ble_eq_true rfl) (Nat.le_of_ble_eq_true rfl) dX12_priceAt_205 hB (fun r G2 hr => ?_)
      obtain ⟨r2, rfl, hE2, hB⟩ := hr
      have hL2 : Lay G2.2.2 := by rw [hE2]; exact hL
      have hE2 : G2.2.2 = G.2.2 := hE2
      show Ev K mX12_priceAt 3 208 [(0, .ref 66), (1, .int x1), (2, .int x2), (3, .int x3), (4, .long y4), (6, .int x6), (7, .int x7), (8, .long y8), (10, .int x10)] [.int r2] G2 _
      refine E_if_ne (tgt := 221) dX12_priceAt_208 (by decide) (fun c => ?_) (fun c => ?_)
      · have hB := hB.1 c
        refine E_sub (lv' := [(0, .ref 66), (1, .int x1), (2, .int x2), (3, .int x3), (4, .long y4), (6, .int x6), (7, .int x7)]) [0, 1, 2, 3, 4, 5, 6] rfl ?_
        exact EvI.tr hB hE2
      · have hB := hB.2 c
        refine E_lload 4 dX12_priceAt_211 rfl ?_
        refine E_lload 7 dX12_priceAt_213 rfl ?_
        refine E_callS (as := [.long y4, .long y8]) (st := []) cm_X12_hasS cS_X12_317 rfl rfl (by decide) (Nat.le_of_ble_eq_true rfl) (Nat.le_of_ble_eq_true rfl) dX12_priceAt_215 hB (fun r G3 hr => ?_)
        obtain ⟨r3, rfl, hE3, hB⟩ := hr
        have hL3 : Lay G3.2.2 := by rw [hE3]; exact hL2
        have hE3 : G3.2.2 = G.2.2 := hE3.trans hE2
        show Ev K mX12_priceAt 3 218 [(0, .ref 66), (1, .int x1), (2, .int x2), (3, .int x3), (4, .long y4), (6, .int x6), (7, .int x7), (8, .long y8), (10, .int x10)] [.int r3] G3 _
        refine E_if_eq (tgt := 227) dX12_priceAt_218 (by decide) (fun c => ?_) (fun c => ?_)
        · have hB := hB.1 c
          refine E_sub (lv' := [(0, .ref 66), (1, .int x1), (2, .int x2), (3, .int x3), (4, .long y4), (6, .int x6), (7, .int x7)]) [0, 1, 2, 3, 4, 5, 6] rfl ?_
          exact EvI.tr hB hE3
        · have hB := hB.2 c
          refine E_sub (lv' := [(0, .ref 66), (1, .int x1), (2, .int x2), (3, .int x3), (4, .long y4), (6, .int x6), (7, .int x7)]) [0, 1, 2, 3, 4, 5, 6] rfl ?_
          exact EvI.tr hB hE3

set_option maxRecDepth 20000 in
set_option maxHeartbeats 2000000 in
theorem kX12_priceAt_221 {K : KT} {G : St} {Q : Int32 → St → Prop} {x1 : Int32} {x2 : Int32} {x3 : Int32} {y4 : Int64} {x6 : Int32} {x7 : Int32} (hL : Lay G.2.2) 
    (hB : EvI K mX12_least 0 0 [(0, .int x3), (1, .int 1)] [] G (fun r1 G1 => EvI K mX12_priceAt 3 227 [(0, .ref 66), (1, .int x1), (2, .int x2), (3, .int r1), (4, .long y4), (6, .int x6), (7, .int x7)] [] G1 Q)) :
    EvI K mX12_priceAt 3 221 [(0, .ref 66), (1, .int x1), (2, .int x2), (3, .int x3), (4, .long y4), (6, .int x6), (7, .int x7)] [] G Q := by
  refine E_iload_n 3 dX12_priceAt_221 rfl rfl ?_
  refine E_iconst (v := 1) dX12_priceAt_222 (by decide) ?_
  refine E_callS (as := [.int x3, .int 1]) (st := []) cm_X12_least cS_X12_314 rfl rfl (by decide) (Nat.le_of_ble_eq_true rfl) (Nat.le_of_ble_eq_true rfl) dX12_priceAt_223 hB (fun r G1 hr => ?_)
  obtain ⟨r1, rfl, hE1, hB⟩ := hr
  have hL1 : Lay G1.2.2 := by rw [hE1]; exact hL
  have hE1 : G1.2.2 = G.2.2 := hE1
  show Ev K mX12_priceAt 3 226 [(0, .ref 66), (1, .int x1), (2, .int x2), (3, .int x3), (4, .long y4), (6, .int x6), (7, .int x7)] [.int r1] G1 _
  refine E_istore_n (lv' := [(0, .ref 66), (1, .int x1), (2, .int x2), (3, .int r1), (4, .long y4), (6, .int x6), (7, .int x7)]) dX12_priceAt_226 rfl (by decide) rfl ?_
  exact EvI.tr hB hE1

set_option maxRecDepth 20000 in
set_option maxHeartbeats 2000000 in
theorem kX12_priceAt_227 {K : KT} {G : St} {Q : Int32 → St → Prop} {x1 : Int32} {x2 : Int32} {x3 : Int32} {y4 : Int64} {x6 : Int32} {x7 : Int32} (hL : Lay G.2.2) 
    (hB : EvI K mX12_priceAt 3 21 [(0, .ref 66), (1, .int x1), (2, .int x2), (3, .int x3), (4, .long y4), (6, .int x6), (7, .int (x7 + 1))] [] G Q) :
    EvI K mX12_priceAt 3 227 [(0, .ref 66), (1, .int x1), (2, .int x2), (3, .int x3), (4, .long y4), (6, .int x6), (7, .int x7)] [] G Q := by
  refine E_iinc (v := x7 + 1) (lv' := [(0, .ref 66), (1, .int x1), (2, .int x2), (3, .int x3), (4, .long y4), (6, .int x6), (7, .int (x7 + 1))]) 6 dX12_priceAt_227 rfl rfl (by decide) rfl ?_
  refine E_goto (tgt := 21) dX12_priceAt_230 (by decide) ?_
  exact EvI.tr hB rfl

set_option maxRecDepth 20000 in
set_option maxHeartbeats 2000000 in
theorem kX12_priceAt_236 {K : KT} {G : St} {Q : Int32 → St → Prop} {x2 : Int32} {x3 : Int32} {y4 : Int64} {x6 : Int32} {x7 : Int32} (hL : Lay G.2.2) 
    (hB : vp_in x6 10 ∧ (((sI G 74 (Int32.toNatClampNeg x6)) ≤ x7 → EvI K mX12_priceAt 3 291 [(0, .ref 66), (2, .int x2), (3, .int x3), (4, .long y4), (6, .int x6)] [] G Q) ∧ (¬ (sI G 74 (Int32.toNatClampNeg x6)) ≤ x7 → vp_in x2 8 ∧ ((¬ (sI G 79 (Int32.toNatClampNeg x2)) = 0 → EvI K mX12_priceAt 3 291 [(0, .ref 66), (2, .int x2), (3, .int x3), (4, .long y4), (6, .int x6)] [] G Q) ∧ ((sI G 79 (Int32.toNatClampNeg x2)) = 0 → vp_in ((4 * x6) + x7) 40 ∧ ((¬ (sL G 75 (Int32.toNatClampNeg ((4 * x6) + x7))) = y4 → EvI K mX12_priceAt 3 284 [(0, .ref 66), (2, .int x2), (4, .long y4), (6, .int x6), (7, .int x7)] [.int x3] G Q) ∧ ((sL G 75 (Int32.toNatClampNeg ((4 * x6) + x7))) = y4 → EvI K mX12_least 0 0 [(0, .int x3), (1, .int 4)] [] G (fun r4 G4 => EvI K mX12_priceAt 3 284 [(0, .ref 66), (2, .int x2), (4, .long y4), (6, .int x6), (7, .int x7)] [.int r4] G4 Q)))))))) :
    EvI K mX12_priceAt 3 236 [(0, .ref 66), (2, .int x2), (3, .int x3), (4, .long y4), (6, .int x6), (7, .int x7)] [] G Q := by
  refine E_iload 5 dX12_priceAt_236 rfl ?_
  refine E_aload_n 0 dX12_priceAt_238 rfl rfl rfl ?_
  refine E_gR (j := 74) fG_X12_59 rfl (lo_66 hL) (lr_66_12 hL) (by decide) dX12_priceAt_239 ?_
  refine E_iload 4 dX12_priceAt_242 rfl ?_
  obtain ⟨qq1, hB⟩ := hB
  refine E_aI (p := Int32.toNatClampNeg x6) (v := sI G 74 (Int32.toNatClampNeg x6)) (la_74 hL) qq1 rfl rfl dX12_priceAt_244 ?_
  refine E_icmp_ge (tgt := 291) dX12_priceAt_245 (by decide) (fun c => ?_) (fun c => ?_)
  · have hB := hB.1 c
    refine E_sub (lv' := [(0, .ref 66), (2, .int x2), (3, .int x3), (4, .long y4), (6, .int x6)]) [0, 1, 2, 3, 4] rfl ?_
    exact EvI.tr hB rfl
  · have hB := hB.2 c
    refine E_aload_n 0 dX12_priceAt_248 rfl rfl rfl ?_
    refine E_gR (j := 79) fG_X12_74 rfl (lo_66 hL) (lr_66_22 hL) (by decide) dX12_priceAt_249 ?_
    refine E_iload_n 1 dX12_priceAt_252 rfl rfl ?_
    obtain ⟨qq2, hB⟩ := hB
    refine E_aI (p := Int32.toNatClampNeg x2) (v := sI G 79 (Int32.toNatClampNeg x2)) (la_79 hL) qq2 rfl rfl dX12_priceAt_253 ?_
    refine E_if_ne (tgt := 291) dX12_priceAt_254 (by decide) (fun c => ?_) (fun c => ?_)
    · have hB := hB.1 c
      refine E_sub (lv' := [(0, .ref 66), (2, .int x2), (3, .int x3), (4, .long y4), (6, .int x6)]) [0, 1, 2, 3, 4] rfl ?_
      exact EvI.tr hB rfl
    · have hB := hB.2 c
      refine E_aload_n 0 dX12_priceAt_257 rfl rfl rfl ?_
      refine E_gR (j := 75) fG_X12_62 rfl (lo_66 hL) (lr_66_13 hL) (by decide) dX12_priceAt_258 ?_
      refine E_iconst (v := 4) dX12_priceAt_261 (by decide) ?_
      refine E_iload 4 dX12_priceAt_262 rfl ?_
      refine E_imul dX12_priceAt_264 ?_
      refine E_iload 5 dX12_priceAt_265 rfl ?_
      refine E_iadd dX12_priceAt_267 ?_
      obtain ⟨qq3, hB⟩ := hB
      refine E_aL (p := Int32.toNatClampNeg ((4 * x6) + x7)) (v := sL G 75 (Int32.toNatClampNeg ((4 * x6) + x7))) (la_75 hL) qq3 rfl rfl dX12_priceAt_268 ?_
      refine E_lload 3 dX12_priceAt_269 rfl ?_
      refine E_lcmp dX12_priceAt_271 ?_
      refine E_if_ne (tgt := 283) dX12_priceAt_272 (by decide) (fun c => ?_) (fun c => ?_)
      · have hB := hB.1 ((fun q => c ((lgc_eq (sL G 75 (Int32.toNatClampNeg ((4 * x6) + x7))) y4).mpr q)))
        refine E_iload_n 2 dX12_priceAt_283 rfl rfl ?_
        refine E_sub (lv' := [(0, .ref 66), (2, .int x2), (4, .long y4), (6, .int x6), (7, .int x7)]) [0, 1, 3, 4, 5] rfl ?_
        exact EvI.tr hB rfl
      · have hB := hB.2 ((lgc_eq (sL G 75 (Int32.toNatClampNeg ((4 * x6) + x7))) y4).mp c)
        refine E_iload_n 2 dX12_priceAt_275 rfl rfl ?_
        refine E_iconst (v := 4) dX12_priceAt_276 (by decide) ?_
        refine E_callS (as := [.int x3, .int 4]) (st := []) cm_X12_least cS_X12_314 rfl rfl (by decide) (Nat.le_of_ble_eq_true rfl) (Nat.le_of_ble_eq_true rfl) dX12_priceAt_277 hB (fun r G4 hr => ?_)
        obtain ⟨r4, rfl, hE4, hB⟩ := hr
        have hL4 : Lay G4.2.2 := by rw [hE4]; exact hL
        have hE4 : G4.2.2 = G.2.2 := hE4
        show Ev K mX12_priceAt 3 280 [(0, .ref 66), (2, .int x2), (3, .int x3), (4, .long y4), (6, .int x6), (7, .int x7)] [.int r4] G4 _
        refine E_goto (tgt := 284) dX12_priceAt_280 (by decide) ?_
        refine E_sub (lv' := [(0, .ref 66), (2, .int x2), (4, .long y4), (6, .int x6), (7, .int x7)]) [0, 1, 3, 4, 5] rfl ?_
        exact EvI.tr hB hE4

set_option maxRecDepth 20000 in
set_option maxHeartbeats 2000000 in
theorem kX12_priceAt_284 {K : KT} {G : St} {Q : Int32 → St → Prop} {x2 : Int32} {y4 : Int64} {x6 : Int32} {x7 : Int32} {xs0 : Int32} (hL : Lay G.2.2) 
    (hB : EvI K mX12_priceAt 3 236 [(0, .ref 66), (2, .int x2), (3, .int xs0), (4, .long y4), (6, .int x6), (7, .int (x7 + 1))] [] G Q) :
    EvI K mX12_priceAt 3 284 [(0, .ref 66), (2, .int x2), (4, .long y4), (6, .int x6), (7, .int x7)] [.int xs0] G Q := by
  refine E_istore_n (lv' := [(0, .ref 66), (2, .int x2), (3, .int xs0), (4, .long y4), (6, .int x6), (7, .int x7)]) dX12_priceAt_284 rfl (by decide) rfl ?_
  refine E_iinc (v := x7 + 1) (lv' := [(0, .ref 66), (2, .int x2), (3, .int xs0), (4, .long y4), (6, .int x6), (7, .int (x7 + 1))]) 5 dX12_priceAt_285 rfl rfl (by decide) rfl ?_
  refine E_goto (tgt := 236) dX12_priceAt_288 (by decide) ?_
  exact EvI.tr hB rfl

set_option maxRecDepth 20000 in
set_option maxHeartbeats 2000000 in
theorem kX12_priceAt_291 {K : KT} {G : St} {Q : Int32 → St → Prop} {x2 : Int32} {x3 : Int32} {y4 : Int64} {x6 : Int32} (hL : Lay G.2.2) 
    (hB : vp_in x2 8 ∧ ((¬ (sI G 79 (Int32.toNatClampNeg x2)) = 0 → Q x3 G) ∧ ((sI G 79 (Int32.toNatClampNeg x2)) = 0 → vp_in x6 10 ∧ ((¬ (sL G 73 (Int32.toNatClampNeg x6)) = y4 → Q x3 G) ∧ ((sL G 73 (Int32.toNatClampNeg x6)) = y4 → EvI K mX12_least 0 0 [(0, .int x3), (1, .int 3)] [] G (fun r3 G3 => Q r3 G3)))))) :
    EvI K mX12_priceAt 3 291 [(0, .ref 66), (2, .int x2), (3, .int x3), (4, .long y4), (6, .int x6)] [] G Q := by
  refine E_aload_n 0 dX12_priceAt_291 rfl rfl rfl ?_
  refine E_gR (j := 79) fG_X12_74 rfl (lo_66 hL) (lr_66_22 hL) (by decide) dX12_priceAt_292 ?_
  refine E_iload_n 1 dX12_priceAt_295 rfl rfl ?_
  obtain ⟨qq1, hB⟩ := hB
  refine E_aI (p := Int32.toNatClampNeg x2) (v := sI G 79 (Int32.toNatClampNeg x2)) (la_79 hL) qq1 rfl rfl dX12_priceAt_296 ?_
  refine E_if_ne (tgt := 321) dX12_priceAt_297 (by decide) (fun c => ?_) (fun c => ?_)
  · have hB := hB.1 c
    refine E_iload_n 2 dX12_priceAt_321 rfl rfl ?_
    exact E_iret rfl dX12_priceAt_322 ⟨_, rfl, rfl, hB⟩
  · have hB := hB.2 c
    refine E_aload_n 0 dX12_priceAt_300 rfl rfl rfl ?_
    refine E_gR (j := 73) fG_X12_56 rfl (lo_66 hL) (lr_66_11 hL) (by decide) dX12_priceAt_301 ?_
    refine E_iload 4 dX12_priceAt_304 rfl ?_
    obtain ⟨qq2, hB⟩ := hB
    refine E_aL (p := Int32.toNatClampNeg x6) (v := sL G 73 (Int32.toNatClampNeg x6)) (la_73 hL) qq2 rfl rfl dX12_priceAt_306 ?_
    refine E_lload 3 dX12_priceAt_307 rfl ?_
    refine E_lcmp dX12_priceAt_309 ?_
    refine E_if_ne (tgt := 321) dX12_priceAt_310 (by decide) (fun c => ?_) (fun c => ?_)
    · have hB := hB.1 ((fun q => c ((lgc_eq (sL G 73 (Int32.toNatClampNeg x6)) y4).mpr q)))
      refine E_iload_n 2 dX12_priceAt_321 rfl rfl ?_
      exact E_iret rfl dX12_priceAt_322 ⟨_, rfl, rfl, hB⟩
    · have hB := hB.2 ((lgc_eq (sL G 73 (Int32.toNatClampNeg x6)) y4).mp c)
      refine E_iload_n 2 dX12_priceAt_313 rfl rfl ?_
      refine E_iconst (v := 3) dX12_priceAt_314 (by decide) ?_
      refine E_callS (as := [.int x3, .int 3]) (st := []) cm_X12_least cS_X12_314 rfl rfl (by decide) (Nat.le_of_ble_eq_true rfl) (Nat.le_of_ble_eq_true rfl) dX12_priceAt_315 hB (fun r G3 hr => ?_)
      obtain ⟨r3, rfl, hE3, hB⟩ := hr
      have hL3 : Lay G3.2.2 := by rw [hE3]; exact hL
      have hE3 : G3.2.2 = G.2.2 := hE3
      show Ev K mX12_priceAt 3 318 [(0, .ref 66), (2, .int x2), (3, .int x3), (4, .long y4), (6, .int x6)] [.int r3] G3 _
      refine E_goto (tgt := 322) dX12_priceAt_318 (by decide) ?_
      exact E_iret rfl dX12_priceAt_322 ⟨_, rfl, hE3, hB⟩

set_option maxRecDepth 20000 in
set_option maxHeartbeats 2000000 in
theorem kX12_findTies_0 {K : KT} {G : St} {Q : St → Prop}  (hL : Lay G.2.2) 
    (hB : EvV K mX12_findTies 4 2 [(0, .ref 66), (1, .int 0)] [] G Q) :
    EvV K mX12_findTies 4 0 [(0, .ref 66)] [] G Q := by
  refine E_iconst (v := 0) dX12_findTies_0 (by decide) ?_
  refine E_istore_n (lv' := [(0, .ref 66), (1, .int 0)]) dX12_findTies_1 rfl (by decide) rfl ?_
  exact EvV.tr hB rfl

set_option maxRecDepth 20000 in
set_option maxHeartbeats 2000000 in
theorem kX12_findTies_2 {K : KT} {G : St} {Q : St → Prop} {x1 : Int32} (hL : Lay G.2.2) 
    (hB : ((900 ≤ x1 → EvV K mX12_findTies 4 29 [(0, .ref 66), (1, .int 0)] [] (uI G 66 37 0) Q) ∧ (¬ 900 ≤ x1 → vp_in x1 900 ∧ EvV K mX12_findTies 4 2 [(0, .ref 66), (1, .int (x1 + 1))] [] (uI G 86 (Int32.toNatClampNeg x1) (-1)) Q))) :
    EvV K mX12_findTies 4 2 [(0, .ref 66), (1, .int x1)] [] G Q := by
  refine E_iload_n 1 dX12_findTies_2 rfl rfl ?_
  refine E_sipush (v := 900) dX12_findTies_3 (by decide) ?_
  refine E_icmp_ge (tgt := 22) dX12_findTies_6 (by decide) (fun c => ?_) (fun c => ?_)
  · have hB := hB.1 c
    refine E_aload_n 0 dX12_findTies_22 rfl rfl rfl ?_
    refine E_iconst (v := 0) dX12_findTies_23 (by decide) ?_
    refine E_pI fP_X12_337 rfl (lo_66 hL) dX12_findTies_24 ?_
    refine E_iconst (v := 0) dX12_findTies_27 (by decide) ?_
    refine E_istore_n (lv' := [(0, .ref 66), (1, .int 0)]) dX12_findTies_28 rfl (by decide) rfl ?_
    exact EvV.tr hB rfl
  · have hB := hB.2 c
    refine E_aload_n 0 dX12_findTies_9 rfl rfl rfl ?_
    refine E_gR (j := 86) fG_X12_96 rfl (lo_66 hL) (lr_66_33 hL) (by decide) dX12_findTies_10 ?_
    refine E_iload_n 1 dX12_findTies_13 rfl rfl ?_
    refine E_iconst (v := (-1)) dX12_findTies_14 (by decide) ?_
    obtain ⟨qq1, hB⟩ := hB
    refine E_sI (p := Int32.toNatClampNeg x1) (la_86 hL) qq1 rfl dX12_findTies_15 ?_
    refine E_iinc (v := x1 + 1) (lv' := [(0, .ref 66), (1, .int (x1 + 1))]) 1 dX12_findTies_16 rfl rfl (by decide) rfl ?_
    refine E_goto (tgt := 2) dX12_findTies_19 (by decide) ?_
    exact EvV.tr hB rfl

set_option maxRecDepth 20000 in
set_option maxHeartbeats 2000000 in
theorem kX12_findTies_29 {K : KT} {G : St} {Q : St → Prop} {x1 : Int32} (hL : Lay G.2.2) 
    (hB : ((30 ≤ x1 → EvV K mX12_findTies 4 74 [(0, .ref 66), (1, .int 0)] [] G Q) ∧ (¬ 30 ≤ x1 → vp_in x1 30 ∧ EvI K mX12_isSeen 1 0 [(0, .ref 66), (1, .int x1)] [] (uI G 87 (Int32.toNatClampNeg x1) 0) (fun r2 G2 => ((r2 = 0 → EvV K mX12_findTies 4 62 [(0, .ref 66), (1, .int x1)] [.int 0, .int (sI G 66 37), .ref 66] G2 Q) ∧ (¬ r2 = 0 → EvV K mX12_findTies 4 62 [(0, .ref 66), (1, .int x1)] [.int (1 <<< (x1 &&& 31)), .int (sI G 66 37), .ref 66] G2 Q)))))) :
    EvV K mX12_findTies 4 29 [(0, .ref 66), (1, .int x1)] [] G Q := by
  refine E_iload_n 1 dX12_findTies_29 rfl rfl ?_
  refine E_bipush (v := 30) dX12_findTies_30 (by decide) ?_
  refine E_icmp_ge (tgt := 72) dX12_findTies_32 (by decide) (fun c => ?_) (fun c => ?_)
  · have hB := hB.1 c
    refine E_iconst (v := 0) dX12_findTies_72 (by decide) ?_
    refine E_istore_n (lv' := [(0, .ref 66), (1, .int 0)]) dX12_findTies_73 rfl (by decide) rfl ?_
    exact EvV.tr hB rfl
  · have hB := hB.2 c
    refine E_aload_n 0 dX12_findTies_35 rfl rfl rfl ?_
    refine E_gR (j := 87) fG_X12_99 rfl (lo_66 hL) (lr_66_34 hL) (by decide) dX12_findTies_36 ?_
    refine E_iload_n 1 dX12_findTies_39 rfl rfl ?_
    refine E_iconst (v := 0) dX12_findTies_40 (by decide) ?_
    obtain ⟨qq1, hB⟩ := hB
    refine E_sI (p := Int32.toNatClampNeg x1) (la_87 hL) qq1 rfl dX12_findTies_41 ?_
    refine E_aload_n 0 dX12_findTies_42 rfl rfl rfl ?_
    refine E_dup dX12_findTies_43 rfl ?_
    refine E_gI (v := sI G 66 37) fG_X12_337 rfl (lo_66 hL) rfl dX12_findTies_44 ?_
    refine E_aload_n 0 dX12_findTies_47 rfl rfl rfl ?_
    refine E_iload_n 1 dX12_findTies_48 rfl rfl ?_
    refine E_cV (ci := 11) (as := [.int x1]) (st := [.int (sI G 66 37), .ref 66]) cm_X12_isSeen cV_X12_287 ⟨_, _, rfl⟩ (by decide) (lo_66 hL) rfl rfl (by decide) (Nat.le_of_ble_eq_true rfl) (Nat.le_of_ble_eq_true rfl) dX12_findTies_49 hB (fun r G2 hr => ?_)
    obtain ⟨r2, rfl, hE2, hB⟩ := hr
    have hL2 : Lay G2.2.2 := by rw [hE2]; exact hL
    have hE2 : G2.2.2 = G.2.2 := hE2
    show Ev K mX12_findTies 4 52 [(0, .ref 66), (1, .int x1)] [.int r2, .int (sI G 66 37), .ref 66] G2 _
    refine E_if_eq (tgt := 61) dX12_findTies_52 (by decide) (fun c => ?_) (fun c => ?_)
    · have hB := hB.1 c
      refine E_iconst (v := 0) dX12_findTies_61 (by decide) ?_
      exact EvV.tr hB hE2
    · have hB := hB.2 c
      refine E_iconst (v := 1) dX12_findTies_55 (by decide) ?_
      refine E_iload_n 1 dX12_findTies_56 rfl rfl ?_
      refine E_ishl dX12_findTies_57 ?_
      refine E_goto (tgt := 62) dX12_findTies_58 (by decide) ?_
      exact EvV.tr hB hE2

set_option maxRecDepth 20000 in
set_option maxHeartbeats 2000000 in
theorem kX12_findTies_62 {K : KT} {G : St} {Q : St → Prop} {x1 : Int32} {xs1 : Int32} {xs2 : Int32} (hL : Lay G.2.2) 
    (hB : EvV K mX12_findTies 4 29 [(0, .ref 66), (1, .int (x1 + 1))] [] (uI G 66 37 (xs1 ||| xs2)) Q) :
    EvV K mX12_findTies 4 62 [(0, .ref 66), (1, .int x1)] [.int xs2, .int xs1, .ref 66] G Q := by
  refine E_ior dX12_findTies_62 ?_
  refine E_pI fP_X12_337 rfl (lo_66 hL) dX12_findTies_63 ?_
  refine E_iinc (v := x1 + 1) (lv' := [(0, .ref 66), (1, .int (x1 + 1))]) 1 dX12_findTies_66 rfl rfl (by decide) rfl ?_
  refine E_goto (tgt := 29) dX12_findTies_69 (by decide) ?_
  exact EvV.tr hB rfl

set_option maxRecDepth 20000 in
set_option maxHeartbeats 2000000 in
theorem kX12_findTies_74 {K : KT} {G : St} {Q : St → Prop} {x1 : Int32} (hL : Lay G.2.2) 
    (hB : (((sI G 66 16) ≤ x1 → EvV K mX12_findTies 4 173 [(0, .ref 66), (1, .int 0)] [] G Q) ∧ (¬ (sI G 66 16) ≤ x1 → EvV K mX12_findTies 4 84 [(0, .ref 66), (1, .int x1), (2, .int 0)] [] G Q))) :
    EvV K mX12_findTies 4 74 [(0, .ref 66), (1, .int x1)] [] G Q := by
  refine E_iload_n 1 dX12_findTies_74 rfl rfl ?_
  refine E_aload_n 0 dX12_findTies_75 rfl rfl rfl ?_
  refine E_gI (v := sI G 66 16) fG_X12_223 rfl (lo_66 hL) rfl dX12_findTies_76 ?_
  refine E_icmp_ge (tgt := 171) dX12_findTies_79 (by decide) (fun c => ?_) (fun c => ?_)
  · have hB := hB.1 c
    refine E_iconst (v := 0) dX12_findTies_171 (by decide) ?_
    refine E_istore_n (lv' := [(0, .ref 66), (1, .int 0)]) dX12_findTies_172 rfl (by decide) rfl ?_
    exact EvV.tr hB rfl
  · have hB := hB.2 c
    refine E_iconst (v := 0) dX12_findTies_82 (by decide) ?_
    refine E_istore_n (lv' := [(0, .ref 66), (1, .int x1), (2, .int 0)]) dX12_findTies_83 rfl (by decide) rfl ?_
    exact EvV.tr hB rfl

set_option maxRecDepth 20000 in
set_option maxHeartbeats 2000000 in
theorem kX12_findTies_84 {K : KT} {G : St} {Q : St → Prop} {x1 : Int32} {x2 : Int32} (hL : Lay G.2.2) 
    (hB : vp_in x1 31 ∧ vp_in (sI G 77 (Int32.toNatClampNeg x1)) 10 ∧ (((sI G 74 (Int32.toNatClampNeg (sI G 77 (Int32.toNatClampNeg x1)))) ≤ x2 → EvV K mX12_findTies 4 165 [(0, .ref 66), (1, .int x1)] [] G Q) ∧ (¬ (sI G 74 (Int32.toNatClampNeg (sI G 77 (Int32.toNatClampNeg x1)))) ≤ x2 → EvI K mX12_isSeen 1 0 [(0, .ref 66), (1, .int x1)] [] G (fun r3 G3 => ((r3 = 0 → EvV K mX12_findTies 4 165 [(0, .ref 66), (1, .int x1)] [] G3 Q) ∧ (¬ r3 = 0 → vp_in ((4 * x1) + x2) 124 ∧ EvI K mX12_kindOf 0 0 [(0, .ref 66), (1, .int x1), (2, .int x2)] [] G3 (fun r5 G5 => ((5 ≤ r5 → EvV K mX12_findTies 4 159 [(0, .ref 66), (1, .int x1), (2, .int x2)] [] G5 Q) ∧ (¬ 5 ≤ r5 → EvI K mX12_isSeen 1 0 [(0, .ref 66), (1, .int (Int64.toInt32 (sL G3 78 (Int32.toNatClampNeg ((4 * x1) + x2)))))] [] G5 (fun r6 G6 => ((r6 = 0 → EvV K mX12_findTies 4 159 [(0, .ref 66), (1, .int x1), (2, .int x2)] [] G6 Q) ∧ (¬ r6 = 0 → vp_in x1 31 ∧ EvI K mX12_pointTo 2 0 [(0, .ref 66), (1, .int (sI G6 77 (Int32.toNatClampNeg x1))), (2, .int x2), (3, .int (Int64.toInt32 (sL G3 78 (Int32.toNatClampNeg ((4 * x1) + x2)))))] [] G6 (fun r8 G8 => EvV K mX12_ties 1 0 [(0, .ref 66), (1, .int x1), (2, .int (Int64.toInt32 (sL G3 78 (Int32.toNatClampNeg ((4 * x1) + x2))))), (3, .int (1 + (r8 / 3)))] [] G8 (fun G9 => EvV K mX12_findTies 4 159 [(0, .ref 66), (1, .int x1), (2, .int x2)] [] G9 Q)))))))))))))) :
    EvV K mX12_findTies 4 84 [(0, .ref 66), (1, .int x1), (2, .int x2)] [] G Q := by
  refine E_iload_n 2 dX12_findTies_84 rfl rfl ?_
  refine E_aload_n 0 dX12_findTies_85 rfl rfl rfl ?_
  refine E_gR (j := 74) fG_X12_59 rfl (lo_66 hL) (lr_66_12 hL) (by decide) dX12_findTies_86 ?_
  refine E_aload_n 0 dX12_findTies_89 rfl rfl rfl ?_
  refine E_gR (j := 77) fG_X12_68 rfl (lo_66 hL) (lr_66_18 hL) (by decide) dX12_findTies_90 ?_
  refine E_iload_n 1 dX12_findTies_93 rfl rfl ?_
  obtain ⟨qq1, hB⟩ := hB
  refine E_aI (p := Int32.toNatClampNeg x1) (v := sI G 77 (Int32.toNatClampNeg x1)) (la_77 hL) qq1 rfl rfl dX12_findTies_94 ?_
  obtain ⟨qq2, hB⟩ := hB
  refine E_aI (p := Int32.toNatClampNeg (sI G 77 (Int32.toNatClampNeg x1))) (v := sI G 74 (Int32.toNatClampNeg (sI G 77 (Int32.toNatClampNeg x1)))) (la_74 hL) qq2 rfl rfl dX12_findTies_95 ?_
  refine E_icmp_ge (tgt := 165) dX12_findTies_96 (by decide) (fun c => ?_) (fun c => ?_)
  · have hB := hB.1 c
    refine E_sub (lv' := [(0, .ref 66), (1, .int x1)]) [0, 1] rfl ?_
    exact EvV.tr hB rfl
  · have hB := hB.2 c
    refine E_aload_n 0 dX12_findTies_99 rfl rfl rfl ?_
    refine E_iload_n 1 dX12_findTies_100 rfl rfl ?_
    refine E_cV (ci := 11) (as := [.int x1]) (st := []) cm_X12_isSeen cV_X12_287 ⟨_, _, rfl⟩ (by decide) (lo_66 hL) rfl rfl (by decide) (Nat.le_of_ble_eq_true rfl) (Nat.le_of_ble_eq_true rfl) dX12_findTies_101 hB (fun r G3 hr => ?_)
    obtain ⟨r3, rfl, hE3, hB⟩ := hr
    have hL3 : Lay G3.2.2 := by rw [hE3]; exact hL
    have hE3 : G3.2.2 = G.2.2 := hE3
    show Ev K mX12_findTies 4 104 [(0, .ref 66), (1, .int x1), (2, .int x2)] [.int r3] G3 _
    refine E_if_eq (tgt := 165) dX12_findTies_104 (by decide) (fun c => ?_) (fun c => ?_)
    · have hB := hB.1 c
      refine E_sub (lv' := [(0, .ref 66), (1, .int x1)]) [0, 1] rfl ?_
      exact EvV.tr hB hE3
    · have hB := hB.2 c
      refine E_aload_n 0 dX12_findTies_107 rfl rfl rfl ?_
      refine E_gR (j := 78) fG_X12_71 rfl (lo_66 hL3) (lr_66_19 hL3) (by decide) dX12_findTies_108 ?_
      refine E_iconst (v := 4) dX12_findTies_111 (by decide) ?_
      refine E_iload_n 1 dX12_findTies_112 rfl rfl ?_
      refine E_imul dX12_findTies_113 ?_
      refine E_iload_n 2 dX12_findTies_114 rfl rfl ?_
      refine E_iadd dX12_findTies_115 ?_
      obtain ⟨qq4, hB⟩ := hB
      refine E_aL (p := Int32.toNatClampNeg ((4 * x1) + x2)) (v := sL G3 78 (Int32.toNatClampNeg ((4 * x1) + x2))) (la_78 hL3) qq4 rfl rfl dX12_findTies_116 ?_
      refine E_l2i dX12_findTies_117 rfl ?_
      refine E_istore_n (lv' := [(0, .ref 66), (1, .int x1), (2, .int x2), (3, .int (Int64.toInt32 (sL G3 78 (Int32.toNatClampNeg ((4 * x1) + x2)))))]) dX12_findTies_118 rfl (by decide) rfl ?_
      refine E_aload_n 0 dX12_findTies_119 rfl rfl rfl ?_
      refine E_iload_n 1 dX12_findTies_120 rfl rfl ?_
      refine E_iload_n 2 dX12_findTies_121 rfl rfl ?_
      refine E_cV (ci := 11) (as := [.int x1, .int x2]) (st := []) cm_X12_kindOf cV_X12_290 ⟨_, _, rfl⟩ (by decide) (lo_66 hL3) rfl rfl (by decide) (Nat.le_of_ble_eq_true rfl) (Nat.le_of_ble_eq_true rfl) dX12_findTies_122 hB (fun r G5 hr => ?_)
      obtain ⟨r5, rfl, hE5, hB⟩ := hr
      have hL5 : Lay G5.2.2 := by rw [hE5]; exact hL3
      have hE5 : G5.2.2 = G.2.2 := hE5.trans hE3
      show Ev K mX12_findTies 4 125 [(0, .ref 66), (1, .int x1), (2, .int x2), (3, .int (Int64.toInt32 (sL G3 78 (Int32.toNatClampNeg ((4 * x1) + x2)))))] [.int r5] G5 _
      refine E_iconst (v := 5) dX12_findTies_125 (by decide) ?_
      refine E_icmp_ge (tgt := 159) dX12_findTies_126 (by decide) (fun c => ?_) (fun c => ?_)
      · have hB := hB.1 c
        refine E_sub (lv' := [(0, .ref 66), (1, .int x1), (2, .int x2)]) [0, 1, 2] rfl ?_
        exact EvV.tr hB hE5
      · have hB := hB.2 c
        refine E_aload_n 0 dX12_findTies_129 rfl rfl rfl ?_
        refine E_iload_n 3 dX12_findTies_130 rfl rfl ?_
        refine E_cV (ci := 11) (as := [.int (Int64.toInt32 (sL G3 78 (Int32.toNatClampNeg ((4 * x1) + x2))))]) (st := []) cm_X12_isSeen cV_X12_287 ⟨_, _, rfl⟩ (by decide) (lo_66 hL5) rfl rfl (by decide) (Nat.le_of_ble_eq_true rfl) (Nat.le_of_ble_eq_true rfl) dX12_findTies_131 hB (fun r G6 hr => ?_)
        obtain ⟨r6, rfl, hE6, hB⟩ := hr
        have hL6 : Lay G6.2.2 := by rw [hE6]; exact hL5
        have hE6 : G6.2.2 = G.2.2 := hE6.trans hE5
        show Ev K mX12_findTies 4 134 [(0, .ref 66), (1, .int x1), (2, .int x2), (3, .int (Int64.toInt32 (sL G3 78 (Int32.toNatClampNeg ((4 * x1) + x2)))))] [.int r6] G6 _
        refine E_if_eq (tgt := 159) dX12_findTies_134 (by decide) (fun c => ?_) (fun c => ?_)
        · have hB := hB.1 c
          refine E_sub (lv' := [(0, .ref 66), (1, .int x1), (2, .int x2)]) [0, 1, 2] rfl ?_
          exact EvV.tr hB hE6
        · have hB := hB.2 c
          refine E_aload_n 0 dX12_findTies_137 rfl rfl rfl ?_
          refine E_iload_n 1 dX12_findTies_138 rfl rfl ?_
          refine E_iload_n 3 dX12_findTies_139 rfl rfl ?_
          refine E_iconst (v := 1) dX12_findTies_140 (by decide) ?_
          refine E_aload_n 0 dX12_findTies_141 rfl rfl rfl ?_
          refine E_aload_n 0 dX12_findTies_142 rfl rfl rfl ?_
          refine E_gR (j := 77) fG_X12_68 rfl (lo_66 hL6) (lr_66_18 hL6) (by decide) dX12_findTies_143 ?_
          refine E_iload_n 1 dX12_findTies_146 rfl rfl ?_
          obtain ⟨qq7, hB⟩ := hB
          refine E_aI (p := Int32.toNatClampNeg x1) (v := sI G6 77 (Int32.toNatClampNeg x1)) (la_77 hL6) qq7 rfl rfl dX12_findTies_147 ?_
          refine E_iload_n 2 dX12_findTies_148 rfl rfl ?_
          refine E_iload_n 3 dX12_findTies_149 rfl rfl ?_
          refine E_cV (ci := 11) (as := [.int (sI G6 77 (Int32.toNatClampNeg x1)), .int x2, .int (Int64.toInt32 (sL G3 78 (Int32.toNatClampNeg ((4 * x1) + x2))))]) (st := [.int 1, .int (Int64.toInt32 (sL G3 78 (Int32.toNatClampNeg ((4 * x1) + x2)))), .int x1, .ref 66]) cm_X12_pointTo cV_X12_340 ⟨_, _, rfl⟩ (by decide) (lo_66 hL6) rfl rfl (by decide) (Nat.le_of_ble_eq_true rfl) (Nat.le_of_ble_eq_true rfl) dX12_findTies_150 hB (fun r G8 hr => ?_)
          obtain ⟨r8, rfl, hE8, hB⟩ := hr
          have hL8 : Lay G8.2.2 := by rw [hE8]; exact hL6
          have hE8 : G8.2.2 = G.2.2 := hE8.trans hE6
          show Ev K mX12_findTies 4 153 [(0, .ref 66), (1, .int x1), (2, .int x2), (3, .int (Int64.toInt32 (sL G3 78 (Int32.toNatClampNeg ((4 * x1) + x2)))))] [.int r8, .int 1, .int (Int64.toInt32 (sL G3 78 (Int32.toNatClampNeg ((4 * x1) + x2)))), .int x1, .ref 66] G8 _
          refine E_iconst (v := 3) dX12_findTies_153 (by decide) ?_
          refine E_idiv dX12_findTies_154 (by decide) ?_
          refine E_iadd dX12_findTies_155 ?_
          refine E_cV (ci := 11) (as := [.int x1, .int (Int64.toInt32 (sL G3 78 (Int32.toNatClampNeg ((4 * x1) + x2)))), .int (1 + (r8 / 3))]) (st := []) cm_X12_ties cV_X12_344 ⟨_, _, rfl⟩ (by decide) (lo_66 hL8) rfl rfl (by decide) (Nat.le_of_ble_eq_true rfl) (Nat.le_of_ble_eq_true rfl) dX12_findTies_156 hB (fun r G9 hr => ?_)
          obtain ⟨rfl, hE9, hB⟩ := hr
          have hL9 : Lay G9.2.2 := by rw [hE9]; exact hL8
          have hE9 : G9.2.2 = G.2.2 := hE9.trans hE8
          show Ev K mX12_findTies 4 159 [(0, .ref 66), (1, .int x1), (2, .int x2), (3, .int (Int64.toInt32 (sL G3 78 (Int32.toNatClampNeg ((4 * x1) + x2)))))] [] G9 _
          refine E_sub (lv' := [(0, .ref 66), (1, .int x1), (2, .int x2)]) [0, 1, 2] rfl ?_
          exact EvV.tr hB hE9

set_option maxRecDepth 20000 in
set_option maxHeartbeats 2000000 in
theorem kX12_findTies_159 {K : KT} {G : St} {Q : St → Prop} {x1 : Int32} {x2 : Int32} (hL : Lay G.2.2) 
    (hB : EvV K mX12_findTies 4 84 [(0, .ref 66), (1, .int x1), (2, .int (x2 + 1))] [] G Q) :
    EvV K mX12_findTies 4 159 [(0, .ref 66), (1, .int x1), (2, .int x2)] [] G Q := by
  refine E_iinc (v := x2 + 1) (lv' := [(0, .ref 66), (1, .int x1), (2, .int (x2 + 1))]) 2 dX12_findTies_159 rfl rfl (by decide) rfl ?_
  refine E_goto (tgt := 84) dX12_findTies_162 (by decide) ?_
  exact EvV.tr hB rfl

set_option maxRecDepth 20000 in
set_option maxHeartbeats 2000000 in
theorem kX12_findTies_165 {K : KT} {G : St} {Q : St → Prop} {x1 : Int32} (hL : Lay G.2.2) 
    (hB : EvV K mX12_findTies 4 74 [(0, .ref 66), (1, .int (x1 + 1))] [] G Q) :
    EvV K mX12_findTies 4 165 [(0, .ref 66), (1, .int x1)] [] G Q := by
  refine E_iinc (v := x1 + 1) (lv' := [(0, .ref 66), (1, .int (x1 + 1))]) 1 dX12_findTies_165 rfl rfl (by decide) rfl ?_
  refine E_goto (tgt := 74) dX12_findTies_168 (by decide) ?_
  exact EvV.tr hB rfl

set_option maxRecDepth 20000 in
set_option maxHeartbeats 2000000 in
theorem kX12_findTies_173 {K : KT} {G : St} {Q : St → Prop} {x1 : Int32} (hL : Lay G.2.2) 
    (hB : (((sI G 66 29) ≤ x1 → EvV K mX12_findTies 4 328 [(0, .ref 66), (1, .int 0)] [] G Q) ∧ (¬ (sI G 66 29) ≤ x1 → vp_in x1 20 ∧ vp_in x1 20 ∧ EvV K mX12_findTies 4 204 [(0, .ref 66), (1, .int x1), (2, .int ((sI G 84 (Int32.toNatClampNeg x1)) / 20)), (3, .int ((sI G 84 (Int32.toNatClampNeg x1)) - (sI G 84 (Int32.toNatClampNeg x1)) / 20 * 20)), (4, .int 0)] [] G Q))) :
    EvV K mX12_findTies 4 173 [(0, .ref 66), (1, .int x1)] [] G Q := by
  refine E_iload_n 1 dX12_findTies_173 rfl rfl ?_
  refine E_aload_n 0 dX12_findTies_174 rfl rfl rfl ?_
  refine E_gI (v := sI G 66 29) fG_X12_229 rfl (lo_66 hL) rfl dX12_findTies_175 ?_
  refine E_icmp_ge (tgt := 326) dX12_findTies_178 (by decide) (fun c => ?_) (fun c => ?_)
  · have hB := hB.1 c
    refine E_iconst (v := 0) dX12_findTies_326 (by decide) ?_
    refine E_istore_n (lv' := [(0, .ref 66), (1, .int 0)]) dX12_findTies_327 rfl (by decide) rfl ?_
    exact EvV.tr hB rfl
  · have hB := hB.2 c
    refine E_aload_n 0 dX12_findTies_181 rfl rfl rfl ?_
    refine E_gR (j := 84) fG_X12_90 rfl (lo_66 hL) (lr_66_30 hL) (by decide) dX12_findTies_182 ?_
    refine E_iload_n 1 dX12_findTies_185 rfl rfl ?_
    obtain ⟨qq1, hB⟩ := hB
    refine E_aI (p := Int32.toNatClampNeg x1) (v := sI G 84 (Int32.toNatClampNeg x1)) (la_84 hL) qq1 rfl rfl dX12_findTies_186 ?_
    refine E_bipush (v := 20) dX12_findTies_187 (by decide) ?_
    refine E_idiv dX12_findTies_189 (by decide) ?_
    refine E_istore_n (lv' := [(0, .ref 66), (1, .int x1), (2, .int ((sI G 84 (Int32.toNatClampNeg x1)) / 20))]) dX12_findTies_190 rfl (by decide) rfl ?_
    refine E_aload_n 0 dX12_findTies_191 rfl rfl rfl ?_
    refine E_gR (j := 84) fG_X12_90 rfl (lo_66 hL) (lr_66_30 hL) (by decide) dX12_findTies_192 ?_
    refine E_iload_n 1 dX12_findTies_195 rfl rfl ?_
    obtain ⟨qq2, hB⟩ := hB
    refine E_aI (p := Int32.toNatClampNeg x1) (v := sI G 84 (Int32.toNatClampNeg x1)) (la_84 hL) qq2 rfl rfl dX12_findTies_196 ?_
    refine E_bipush (v := 20) dX12_findTies_197 (by decide) ?_
    refine E_irem dX12_findTies_199 (by decide) ?_
    refine E_istore_n (lv' := [(0, .ref 66), (1, .int x1), (2, .int ((sI G 84 (Int32.toNatClampNeg x1)) / 20)), (3, .int ((sI G 84 (Int32.toNatClampNeg x1)) - (sI G 84 (Int32.toNatClampNeg x1)) / 20 * 20))]) dX12_findTies_200 rfl (by decide) rfl ?_
    refine E_iconst (v := 0) dX12_findTies_201 (by decide) ?_
    refine E_istore (lv' := [(0, .ref 66), (1, .int x1), (2, .int ((sI G 84 (Int32.toNatClampNeg x1)) / 20)), (3, .int ((sI G 84 (Int32.toNatClampNeg x1)) - (sI G 84 (Int32.toNatClampNeg x1)) / 20 * 20)), (4, .int 0)]) dX12_findTies_202 (by decide) rfl ?_
    exact EvV.tr hB rfl

set_option maxRecDepth 20000 in
set_option maxHeartbeats 2000000 in
theorem kX12_findTies_204 {K : KT} {G : St} {Q : St → Prop} {x1 : Int32} {x2 : Int32} {x3 : Int32} {x4 : Int32} (hL : Lay G.2.2) 
    (hB : (((sI G 66 16) ≤ x4 → EvV K mX12_findTies 4 173 [(0, .ref 66), (1, .int (x1 + 1))] [] G Q) ∧ (¬ (sI G 66 16) ≤ x4 → EvV K mX12_findTies 4 216 [(0, .ref 66), (1, .int x1), (2, .int x2), (3, .int x3), (4, .int x4), (5, .int 0)] [] G Q))) :
    EvV K mX12_findTies 4 204 [(0, .ref 66), (1, .int x1), (2, .int x2), (3, .int x3), (4, .int x4)] [] G Q := by
  refine E_iload 4 dX12_findTies_204 rfl ?_
  refine E_aload_n 0 dX12_findTies_206 rfl rfl rfl ?_
  refine E_gI (v := sI G 66 16) fG_X12_223 rfl (lo_66 hL) rfl dX12_findTies_207 ?_
  refine E_icmp_ge (tgt := 320) dX12_findTies_210 (by decide) (fun c => ?_) (fun c => ?_)
  · have hB := hB.1 c
    refine E_iinc (v := x1 + 1) (lv' := [(0, .ref 66), (1, .int (x1 + 1)), (2, .int x2), (3, .int x3), (4, .int x4)]) 1 dX12_findTies_320 rfl rfl (by decide) rfl ?_
    refine E_goto (tgt := 173) dX12_findTies_323 (by decide) ?_
    refine E_sub (lv' := [(0, .ref 66), (1, .int (x1 + 1))]) [0, 1] rfl ?_
    exact EvV.tr hB rfl
  · have hB := hB.2 c
    refine E_iconst (v := 0) dX12_findTies_213 (by decide) ?_
    refine E_istore (lv' := [(0, .ref 66), (1, .int x1), (2, .int x2), (3, .int x3), (4, .int x4), (5, .int 0)]) dX12_findTies_214 (by decide) rfl ?_
    exact EvV.tr hB rfl

set_option maxRecDepth 20000 in
set_option maxHeartbeats 2000000 in
theorem kX12_findTies_216 {K : KT} {G : St} {Q : St → Prop} {x1 : Int32} {x2 : Int32} {x3 : Int32} {x4 : Int32} {x5 : Int32} (hL : Lay G.2.2) 
    (hB : (((sI G 66 16) ≤ x5 → EvV K mX12_findTies 4 314 [(0, .ref 66), (1, .int x1), (2, .int x2), (3, .int x3), (4, .int x4)] [] G Q) ∧ (¬ (sI G 66 16) ≤ x5 → EvI K mX12_isSeen 1 0 [(0, .ref 66), (1, .int x4)] [] G (fun r1 G1 => ((r1 = 0 → EvV K mX12_findTies 4 314 [(0, .ref 66), (1, .int x1), (2, .int x2), (3, .int x3), (4, .int x4)] [] G1 Q) ∧ (¬ r1 = 0 → vp_in x4 31 ∧ ((¬ (sI G1 77 (Int32.toNatClampNeg x4)) = (x2 / 4) → EvV K mX12_findTies 4 314 [(0, .ref 66), (1, .int x1), (2, .int x2), (3, .int x3), (4, .int x4)] [] G1 Q) ∧ ((sI G1 77 (Int32.toNatClampNeg x4)) = (x2 / 4) → EvI K mX12_isSeen 1 0 [(0, .ref 66), (1, .int x5)] [] G1 (fun r3 G3 => ((r3 = 0 → EvV K mX12_findTies 4 308 [(0, .ref 66), (1, .int x1), (2, .int x2), (3, .int x3), (4, .int x4), (5, .int x5)] [] G3 Q) ∧ (¬ r3 = 0 → vp_in x5 31 ∧ ((¬ (sI G3 77 (Int32.toNatClampNeg x5)) = (x3 / 4) → EvV K mX12_findTies 4 308 [(0, .ref 66), (1, .int x1), (2, .int x2), (3, .int x3), (4, .int x4), (5, .int x5)] [] G3 Q) ∧ ((sI G3 77 (Int32.toNatClampNeg x5)) = (x3 / 4) → vp_in ((4 * x4) + (x2 - x2 / 4 * 4)) 124 ∧ vp_in ((4 * x5) + (x3 - x3 / 4 * 4)) 124 ∧ ((¬ (sL G3 78 (Int32.toNatClampNeg ((4 * x4) + (x2 - x2 / 4 * 4)))) = (sL G3 78 (Int32.toNatClampNeg ((4 * x5) + (x3 - x3 / 4 * 4)))) → EvV K mX12_findTies 4 308 [(0, .ref 66), (1, .int x1), (2, .int x2), (3, .int x3), (4, .int x4), (5, .int x5)] [] G3 Q) ∧ ((sL G3 78 (Int32.toNatClampNeg ((4 * x4) + (x2 - x2 / 4 * 4)))) = (sL G3 78 (Int32.toNatClampNeg ((4 * x5) + (x3 - x3 / 4 * 4)))) → EvV K mX12_ties 1 0 [(0, .ref 66), (1, .int x4), (2, .int x5), (3, .int 3)] [] G3 (fun G7 => EvV K mX12_findTies 4 308 [(0, .ref 66), (1, .int x1), (2, .int x2), (3, .int x3), (4, .int x4), (5, .int x5)] [] G7 Q)))))))))))))))) :
    EvV K mX12_findTies 4 216 [(0, .ref 66), (1, .int x1), (2, .int x2), (3, .int x3), (4, .int x4), (5, .int x5)] [] G Q := by
  refine E_iload 5 dX12_findTies_216 rfl ?_
  refine E_aload_n 0 dX12_findTies_218 rfl rfl rfl ?_
  refine E_gI (v := sI G 66 16) fG_X12_223 rfl (lo_66 hL) rfl dX12_findTies_219 ?_
  refine E_icmp_ge (tgt := 314) dX12_findTies_222 (by decide) (fun c => ?_) (fun c => ?_)
  · have hB := hB.1 c
    refine E_sub (lv' := [(0, .ref 66), (1, .int x1), (2, .int x2), (3, .int x3), (4, .int x4)]) [0, 1, 2, 3, 4] rfl ?_
    exact EvV.tr hB rfl
  · have hB := hB.2 c
    refine E_aload_n 0 dX12_findTies_225 rfl rfl rfl ?_
    refine E_iload 4 dX12_findTies_226 rfl ?_
    refine E_cV (ci := 11) (as := [.int x4]) (st := []) cm_X12_isSeen cV_X12_287 ⟨_, _, rfl⟩ (by decide) (lo_66 hL) rfl rfl (by decide) (Nat.le_of_ble_eq_true rfl) (Nat.le_of_ble_eq_true rfl) dX12_findTies_228 hB (fun r G1 hr => ?_)
    obtain ⟨r1, rfl, hE1, hB⟩ := hr
    have hL1 : Lay G1.2.2 := by rw [hE1]; exact hL
    have hE1 : G1.2.2 = G.2.2 := hE1
    show Ev K mX12_findTies 4 231 [(0, .ref 66), (1, .int x1), (2, .int x2), (3, .int x3), (4, .int x4), (5, .int x5)] [.int r1] G1 _
    refine E_if_eq (tgt := 314) dX12_findTies_231 (by decide) (fun c => ?_) (fun c => ?_)
    · have hB := hB.1 c
      refine E_sub (lv' := [(0, .ref 66), (1, .int x1), (2, .int x2), (3, .int x3), (4, .int x4)]) [0, 1, 2, 3, 4] rfl ?_
      exact EvV.tr hB hE1
    · have hB := hB.2 c
      refine E_aload_n 0 dX12_findTies_234 rfl rfl rfl ?_
      refine E_gR (j := 77) fG_X12_68 rfl (lo_66 hL1) (lr_66_18 hL1) (by decide) dX12_findTies_235 ?_
      refine E_iload 4 dX12_findTies_238 rfl ?_
      obtain ⟨qq2, hB⟩ := hB
      refine E_aI (p := Int32.toNatClampNeg x4) (v := sI G1 77 (Int32.toNatClampNeg x4)) (la_77 hL1) qq2 rfl rfl dX12_findTies_240 ?_
      refine E_iload_n 2 dX12_findTies_241 rfl rfl ?_
      refine E_iconst (v := 4) dX12_findTies_242 (by decide) ?_
      refine E_idiv dX12_findTies_243 (by decide) ?_
      refine E_icmp_ne (tgt := 314) dX12_findTies_244 (by decide) (fun c => ?_) (fun c => ?_)
      · have hB := hB.1 c
        refine E_sub (lv' := [(0, .ref 66), (1, .int x1), (2, .int x2), (3, .int x3), (4, .int x4)]) [0, 1, 2, 3, 4] rfl ?_
        exact EvV.tr hB hE1
      · have hB := hB.2 c
        refine E_aload_n 0 dX12_findTies_247 rfl rfl rfl ?_
        refine E_iload 5 dX12_findTies_248 rfl ?_
        refine E_cV (ci := 11) (as := [.int x5]) (st := []) cm_X12_isSeen cV_X12_287 ⟨_, _, rfl⟩ (by decide) (lo_66 hL1) rfl rfl (by decide) (Nat.le_of_ble_eq_true rfl) (Nat.le_of_ble_eq_true rfl) dX12_findTies_250 hB (fun r G3 hr => ?_)
        obtain ⟨r3, rfl, hE3, hB⟩ := hr
        have hL3 : Lay G3.2.2 := by rw [hE3]; exact hL1
        have hE3 : G3.2.2 = G.2.2 := hE3.trans hE1
        show Ev K mX12_findTies 4 253 [(0, .ref 66), (1, .int x1), (2, .int x2), (3, .int x3), (4, .int x4), (5, .int x5)] [.int r3] G3 _
        refine E_if_eq (tgt := 308) dX12_findTies_253 (by decide) (fun c => ?_) (fun c => ?_)
        · have hB := hB.1 c
          exact EvV.tr hB hE3
        · have hB := hB.2 c
          refine E_aload_n 0 dX12_findTies_256 rfl rfl rfl ?_
          refine E_gR (j := 77) fG_X12_68 rfl (lo_66 hL3) (lr_66_18 hL3) (by decide) dX12_findTies_257 ?_
          refine E_iload 5 dX12_findTies_260 rfl ?_
          obtain ⟨qq4, hB⟩ := hB
          refine E_aI (p := Int32.toNatClampNeg x5) (v := sI G3 77 (Int32.toNatClampNeg x5)) (la_77 hL3) qq4 rfl rfl dX12_findTies_262 ?_
          refine E_iload_n 3 dX12_findTies_263 rfl rfl ?_
          refine E_iconst (v := 4) dX12_findTies_264 (by decide) ?_
          refine E_idiv dX12_findTies_265 (by decide) ?_
          refine E_icmp_ne (tgt := 308) dX12_findTies_266 (by decide) (fun c => ?_) (fun c => ?_)
          · have hB := hB.1 c
            exact EvV.tr hB hE3
          · have hB := hB.2 c
            refine E_aload_n 0 dX12_findTies_269 rfl rfl rfl ?_
            refine E_gR (j := 78) fG_X12_71 rfl (lo_66 hL3) (lr_66_19 hL3) (by decide) dX12_findTies_270 ?_
            refine E_iconst (v := 4) dX12_findTies_273 (by decide) ?_
            refine E_iload 4 dX12_findTies_274 rfl ?_
            refine E_imul dX12_findTies_276 ?_
            refine E_iload_n 2 dX12_findTies_277 rfl rfl ?_
            refine E_iconst (v := 4) dX12_findTies_278 (by decide) ?_
            refine E_irem dX12_findTies_279 (by decide) ?_
            refine E_iadd dX12_findTies_280 ?_
            obtain ⟨qq5, hB⟩ := hB
            refine E_aL (p := Int32.toNatClampNeg ((4 * x4) + (x2 - x2 / 4 * 4))) (v := sL G3 78 (Int32.toNatClampNeg ((4 * x4) + (x2 - x2 / 4 * 4)))) (la_78 hL3) qq5 rfl rfl dX12_findTies_281 ?_
            refine E_aload_n 0 dX12_findTies_282 rfl rfl rfl ?_
            refine E_gR (j := 78) fG_X12_71 rfl (lo_66 hL3) (lr_66_19 hL3) (by decide) dX12_findTies_283 ?_
            refine E_iconst (v := 4) dX12_findTies_286 (by decide) ?_
            refine E_iload 5 dX12_findTies_287 rfl ?_
            refine E_imul dX12_findTies_289 ?_
            refine E_iload_n 3 dX12_findTies_290 rfl rfl ?_
            refine E_iconst (v := 4) dX12_findTies_291 (by decide) ?_
            refine E_irem dX12_findTies_292 (by decide) ?_
            refine E_iadd dX12_findTies_293 ?_
            obtain ⟨qq6, hB⟩ := hB
            refine E_aL (p := Int32.toNatClampNeg ((4 * x5) + (x3 - x3 / 4 * 4))) (v := sL G3 78 (Int32.toNatClampNeg ((4 * x5) + (x3 - x3 / 4 * 4)))) (la_78 hL3) qq6 rfl rfl dX12_findTies_294 ?_
            refine E_lcmp dX12_findTies_295 ?_
            refine E_if_ne (tgt := 308) dX12_findTies_296 (by decide) (fun c => ?_) (fun c => ?_)
            · have hB := hB.1 ((fun q => c ((lgc_eq (sL G3 78 (Int32.toNatClampNeg ((4 * x4) + (x2 - x2 / 4 * 4)))) (sL G3 78 (Int32.toNatClampNeg ((4 * x5) + (x3 - x3 / 4 * 4))))).mpr q)))
              exact EvV.tr hB hE3
            · have hB := hB.2 ((lgc_eq (sL G3 78 (Int32.toNatClampNeg ((4 * x4) + (x2 - x2 / 4 * 4)))) (sL G3 78 (Int32.toNatClampNeg ((4 * x5) + (x3 - x3 / 4 * 4))))).mp c)
              refine E_aload_n 0 dX12_findTies_299 rfl rfl rfl ?_
              refine E_iload 4 dX12_findTies_300 rfl ?_
              refine E_iload 5 dX12_findTies_302 rfl ?_
              refine E_iconst (v := 3) dX12_findTies_304 (by decide) ?_
              refine E_cV (ci := 11) (as := [.int x4, .int x5, .int 3]) (st := []) cm_X12_ties cV_X12_344 ⟨_, _, rfl⟩ (by decide) (lo_66 hL3) rfl rfl (by decide) (Nat.le_of_ble_eq_true rfl) (Nat.le_of_ble_eq_true rfl) dX12_findTies_305 hB (fun r G7 hr => ?_)
              obtain ⟨rfl, hE7, hB⟩ := hr
              have hL7 : Lay G7.2.2 := by rw [hE7]; exact hL3
              have hE7 : G7.2.2 = G.2.2 := hE7.trans hE3
              show Ev K mX12_findTies 4 308 [(0, .ref 66), (1, .int x1), (2, .int x2), (3, .int x3), (4, .int x4), (5, .int x5)] [] G7 _
              exact EvV.tr hB hE7

set_option maxRecDepth 20000 in
set_option maxHeartbeats 2000000 in
theorem kX12_findTies_308 {K : KT} {G : St} {Q : St → Prop} {x1 : Int32} {x2 : Int32} {x3 : Int32} {x4 : Int32} {x5 : Int32} (hL : Lay G.2.2) 
    (hB : EvV K mX12_findTies 4 216 [(0, .ref 66), (1, .int x1), (2, .int x2), (3, .int x3), (4, .int x4), (5, .int (x5 + 1))] [] G Q) :
    EvV K mX12_findTies 4 308 [(0, .ref 66), (1, .int x1), (2, .int x2), (3, .int x3), (4, .int x4), (5, .int x5)] [] G Q := by
  refine E_iinc (v := x5 + 1) (lv' := [(0, .ref 66), (1, .int x1), (2, .int x2), (3, .int x3), (4, .int x4), (5, .int (x5 + 1))]) 5 dX12_findTies_308 rfl rfl (by decide) rfl ?_
  refine E_goto (tgt := 216) dX12_findTies_311 (by decide) ?_
  exact EvV.tr hB rfl

set_option maxRecDepth 20000 in
set_option maxHeartbeats 2000000 in
theorem kX12_findTies_314 {K : KT} {G : St} {Q : St → Prop} {x1 : Int32} {x2 : Int32} {x3 : Int32} {x4 : Int32} (hL : Lay G.2.2) 
    (hB : EvV K mX12_findTies 4 204 [(0, .ref 66), (1, .int x1), (2, .int x2), (3, .int x3), (4, .int (x4 + 1))] [] G Q) :
    EvV K mX12_findTies 4 314 [(0, .ref 66), (1, .int x1), (2, .int x2), (3, .int x3), (4, .int x4)] [] G Q := by
  refine E_iinc (v := x4 + 1) (lv' := [(0, .ref 66), (1, .int x1), (2, .int x2), (3, .int x3), (4, .int (x4 + 1))]) 4 dX12_findTies_314 rfl rfl (by decide) rfl ?_
  refine E_goto (tgt := 204) dX12_findTies_317 (by decide) ?_
  exact EvV.tr hB rfl

set_option maxRecDepth 20000 in
set_option maxHeartbeats 2000000 in
theorem kX12_findTies_328 {K : KT} {G : St} {Q : St → Prop} {x1 : Int32} (hL : Lay G.2.2) 
    (hB : ((30 ≤ x1 → Q G) ∧ (¬ 30 ≤ x1 → vp_in x1 30 ∧ EvV K mX12_findTies 4 343 [(0, .ref 66), (1, .int x1), (2, .int 0)] [] (uI G 88 (Int32.toNatClampNeg x1) 0) Q))) :
    EvV K mX12_findTies 4 328 [(0, .ref 66), (1, .int x1)] [] G Q := by
  refine E_iload_n 1 dX12_findTies_328 rfl rfl ?_
  refine E_bipush (v := 30) dX12_findTies_329 (by decide) ?_
  refine E_icmp_ge (tgt := 425) dX12_findTies_331 (by decide) (fun c => ?_) (fun c => ?_)
  · have hB := hB.1 c
    exact E_vret rfl dX12_findTies_425 ⟨rfl, rfl, hB⟩
  · have hB := hB.2 c
    refine E_aload_n 0 dX12_findTies_334 rfl rfl rfl ?_
    refine E_gR (j := 88) fG_X12_102 rfl (lo_66 hL) (lr_66_35 hL) (by decide) dX12_findTies_335 ?_
    refine E_iload_n 1 dX12_findTies_338 rfl rfl ?_
    refine E_iconst (v := 0) dX12_findTies_339 (by decide) ?_
    obtain ⟨qq1, hB⟩ := hB
    refine E_sI (p := Int32.toNatClampNeg x1) (la_88 hL) qq1 rfl dX12_findTies_340 ?_
    refine E_iconst (v := 0) dX12_findTies_341 (by decide) ?_
    refine E_istore_n (lv' := [(0, .ref 66), (1, .int x1), (2, .int 0)]) dX12_findTies_342 rfl (by decide) rfl ?_
    exact EvV.tr hB rfl

set_option maxRecDepth 20000 in
set_option maxHeartbeats 2000000 in
theorem kX12_findTies_343 {K : KT} {G : St} {Q : St → Prop} {x1 : Int32} {x2 : Int32} (hL : Lay G.2.2) 
    (hB : ((4 ≤ x2 → EvV K mX12_findTies 4 328 [(0, .ref 66), (1, .int (x1 + 1))] [] G Q) ∧ (¬ 4 ≤ x2 → EvI K mX12_isSeen 1 0 [(0, .ref 66), (1, .int x1)] [] G (fun r1 G1 => ((r1 = 0 → EvV K mX12_findTies 4 382 [(0, .ref 66), (1, .int x1), (2, .int x2)] [.int ((4 * x1) + x2), .ref 89] G1 Q) ∧ (¬ r1 = 0 → (((sI G1 66 20) ≤ x2 → EvV K mX12_findTies 4 382 [(0, .ref 66), (1, .int x1), (2, .int x2)] [.int ((4 * x1) + x2), .ref 89] G1 Q) ∧ (¬ (sI G1 66 20) ≤ x2 → EvI K mX12_priceAt 3 0 [(0, .ref 66), (1, .int x1), (2, .int x2)] [] G1 (fun r2 G2 => EvV K mX12_findTies 4 383 [(0, .ref 66), (1, .int x1), (2, .int x2)] [.int r2, .int ((4 * x1) + x2), .ref 89] G2 Q))))))))) :
    EvV K mX12_findTies 4 343 [(0, .ref 66), (1, .int x1), (2, .int x2)] [] G Q := by
  refine E_iload_n 2 dX12_findTies_343 rfl rfl ?_
  refine E_iconst (v := 4) dX12_findTies_344 (by decide) ?_
  refine E_icmp_ge (tgt := 419) dX12_findTies_345 (by decide) (fun c => ?_) (fun c => ?_)
  · have hB := hB.1 c
    refine E_iinc (v := x1 + 1) (lv' := [(0, .ref 66), (1, .int (x1 + 1)), (2, .int x2)]) 1 dX12_findTies_419 rfl rfl (by decide) rfl ?_
    refine E_goto (tgt := 328) dX12_findTies_422 (by decide) ?_
    refine E_sub (lv' := [(0, .ref 66), (1, .int (x1 + 1))]) [0, 1] rfl ?_
    exact EvV.tr hB rfl
  · have hB := hB.2 c
    refine E_aload_n 0 dX12_findTies_348 rfl rfl rfl ?_
    refine E_gR (j := 89) fG_X12_105 rfl (lo_66 hL) (lr_66_36 hL) (by decide) dX12_findTies_349 ?_
    refine E_iconst (v := 4) dX12_findTies_352 (by decide) ?_
    refine E_iload_n 1 dX12_findTies_353 rfl rfl ?_
    refine E_imul dX12_findTies_354 ?_
    refine E_iload_n 2 dX12_findTies_355 rfl rfl ?_
    refine E_iadd dX12_findTies_356 ?_
    refine E_aload_n 0 dX12_findTies_357 rfl rfl rfl ?_
    refine E_iload_n 1 dX12_findTies_358 rfl rfl ?_
    refine E_cV (ci := 11) (as := [.int x1]) (st := [.int ((4 * x1) + x2), .ref 89]) cm_X12_isSeen cV_X12_287 ⟨_, _, rfl⟩ (by decide) (lo_66 hL) rfl rfl (by decide) (Nat.le_of_ble_eq_true rfl) (Nat.le_of_ble_eq_true rfl) dX12_findTies_359 hB (fun r G1 hr => ?_)
    obtain ⟨r1, rfl, hE1, hB⟩ := hr
    have hL1 : Lay G1.2.2 := by rw [hE1]; exact hL
    have hE1 : G1.2.2 = G.2.2 := hE1
    show Ev K mX12_findTies 4 362 [(0, .ref 66), (1, .int x1), (2, .int x2)] [.int r1, .int ((4 * x1) + x2), .ref 89] G1 _
    refine E_if_eq (tgt := 382) dX12_findTies_362 (by decide) (fun c => ?_) (fun c => ?_)
    · have hB := hB.1 c
      exact EvV.tr hB hE1
    · have hB := hB.2 c
      refine E_iload_n 2 dX12_findTies_365 rfl rfl ?_
      refine E_aload_n 0 dX12_findTies_366 rfl rfl rfl ?_
      refine E_gI (v := sI G1 66 20) fG_X12_226 rfl (lo_66 hL1) rfl dX12_findTies_367 ?_
      refine E_icmp_ge (tgt := 382) dX12_findTies_370 (by decide) (fun c => ?_) (fun c => ?_)
      · have hB := hB.1 c
        exact EvV.tr hB hE1
      · have hB := hB.2 c
        refine E_aload_n 0 dX12_findTies_373 rfl rfl rfl ?_
        refine E_iload_n 1 dX12_findTies_374 rfl rfl ?_
        refine E_iload_n 2 dX12_findTies_375 rfl rfl ?_
        refine E_cV (ci := 11) (as := [.int x1, .int x2]) (st := [.int ((4 * x1) + x2), .ref 89]) cm_X12_priceAt cV_X12_348 ⟨_, _, rfl⟩ (by decide) (lo_66 hL1) rfl rfl (by decide) (Nat.le_of_ble_eq_true rfl) (Nat.le_of_ble_eq_true rfl) dX12_findTies_376 hB (fun r G2 hr => ?_)
        obtain ⟨r2, rfl, hE2, hB⟩ := hr
        have hL2 : Lay G2.2.2 := by rw [hE2]; exact hL1
        have hE2 : G2.2.2 = G.2.2 := hE2.trans hE1
        show Ev K mX12_findTies 4 379 [(0, .ref 66), (1, .int x1), (2, .int x2)] [.int r2, .int ((4 * x1) + x2), .ref 89] G2 _
        refine E_goto (tgt := 383) dX12_findTies_379 (by decide) ?_
        exact EvV.tr hB hE2

set_option maxRecDepth 20000 in
set_option maxHeartbeats 2000000 in
theorem kX12_findTies_382 {K : KT} {G : St} {Q : St → Prop} {x1 : Int32} {x2 : Int32} {xs1 : Int32} (hL : Lay G.2.2) 
    (hB : EvV K mX12_findTies 4 383 [(0, .ref 66), (1, .int x1), (2, .int x2)] [.int (-1), .int xs1, .ref 89] G Q) :
    EvV K mX12_findTies 4 382 [(0, .ref 66), (1, .int x1), (2, .int x2)] [.int xs1, .ref 89] G Q := by
  refine E_iconst (v := (-1)) dX12_findTies_382 (by decide) ?_
  exact EvV.tr hB rfl

set_option maxRecDepth 20000 in
set_option maxHeartbeats 2000000 in
theorem kX12_findTies_383 {K : KT} {G : St} {Q : St → Prop} {x1 : Int32} {x2 : Int32} {xs1 : Int32} {xs2 : Int32} (hL : Lay G.2.2) 
    (hB : vp_in xs1 120 ∧ vp_in x1 30 ∧ vp_in ((4 * x1) + x2) 120 ∧ (((sI (uI G 89 (Int32.toNatClampNeg xs1) xs2) 89 (Int32.toNatClampNeg ((4 * x1) + x2))) < 0 → EvV K mX12_findTies 4 411 [(0, .ref 66), (1, .int x1), (2, .int x2)] [.int 0, .int (sI G 88 (Int32.toNatClampNeg x1)), .int x1, .ref 88] (uI G 89 (Int32.toNatClampNeg xs1) xs2) Q) ∧ (¬ (sI (uI G 89 (Int32.toNatClampNeg xs1) xs2) 89 (Int32.toNatClampNeg ((4 * x1) + x2))) < 0 → EvV K mX12_findTies 4 411 [(0, .ref 66), (1, .int x1), (2, .int x2)] [.int (1 <<< (x2 &&& 31)), .int (sI G 88 (Int32.toNatClampNeg x1)), .int x1, .ref 88] (uI G 89 (Int32.toNatClampNeg xs1) xs2) Q))) :
    EvV K mX12_findTies 4 383 [(0, .ref 66), (1, .int x1), (2, .int x2)] [.int xs2, .int xs1, .ref 89] G Q := by
  obtain ⟨qq1, hB⟩ := hB
  refine E_sI (p := Int32.toNatClampNeg xs1) (la_89 hL) qq1 rfl dX12_findTies_383 ?_
  refine E_aload_n 0 dX12_findTies_384 rfl rfl rfl ?_
  refine E_gR (j := 88) fG_X12_102 rfl (lo_66 hL) (lr_66_35 hL) (by decide) dX12_findTies_385 ?_
  refine E_iload_n 1 dX12_findTies_388 rfl rfl ?_
  refine E_dup2 dX12_findTies_389 rfl rfl ?_
  obtain ⟨qq2, hB⟩ := hB
  refine E_aI (p := Int32.toNatClampNeg x1) (v := sI G 88 (Int32.toNatClampNeg x1)) (la_88 hL) qq2 rfl rfl dX12_findTies_390 ?_
  refine E_aload_n 0 dX12_findTies_391 rfl rfl rfl ?_
  refine E_gR (j := 89) fG_X12_105 rfl (lo_66 hL) (lr_66_36 hL) (by decide) dX12_findTies_392 ?_
  refine E_iconst (v := 4) dX12_findTies_395 (by decide) ?_
  refine E_iload_n 1 dX12_findTies_396 rfl rfl ?_
  refine E_imul dX12_findTies_397 ?_
  refine E_iload_n 2 dX12_findTies_398 rfl rfl ?_
  refine E_iadd dX12_findTies_399 ?_
  obtain ⟨qq3, hB⟩ := hB
  refine E_aI (p := Int32.toNatClampNeg ((4 * x1) + x2)) (v := sI (uI G 89 (Int32.toNatClampNeg xs1) xs2) 89 (Int32.toNatClampNeg ((4 * x1) + x2))) (la_89 hL) qq3 rfl rfl dX12_findTies_400 ?_
  refine E_if_lt (tgt := 410) dX12_findTies_401 (by decide) (fun c => ?_) (fun c => ?_)
  · have hB := hB.1 c
    refine E_iconst (v := 0) dX12_findTies_410 (by decide) ?_
    exact EvV.tr hB rfl
  · have hB := hB.2 c
    refine E_iconst (v := 1) dX12_findTies_404 (by decide) ?_
    refine E_iload_n 2 dX12_findTies_405 rfl rfl ?_
    refine E_ishl dX12_findTies_406 ?_
    refine E_goto (tgt := 411) dX12_findTies_407 (by decide) ?_
    exact EvV.tr hB rfl

set_option maxRecDepth 20000 in
set_option maxHeartbeats 2000000 in
theorem kX12_findTies_411 {K : KT} {G : St} {Q : St → Prop} {x1 : Int32} {x2 : Int32} {xs1 : Int32} {xs2 : Int32} {xs3 : Int32} (hL : Lay G.2.2) 
    (hB : vp_in xs1 30 ∧ EvV K mX12_findTies 4 343 [(0, .ref 66), (1, .int x1), (2, .int (x2 + 1))] [] (uI G 88 (Int32.toNatClampNeg xs1) (xs2 ||| xs3)) Q) :
    EvV K mX12_findTies 4 411 [(0, .ref 66), (1, .int x1), (2, .int x2)] [.int xs3, .int xs2, .int xs1, .ref 88] G Q := by
  refine E_ior dX12_findTies_411 ?_
  obtain ⟨qq1, hB⟩ := hB
  refine E_sI (p := Int32.toNatClampNeg xs1) (la_88 hL) qq1 rfl dX12_findTies_412 ?_
  refine E_iinc (v := x2 + 1) (lv' := [(0, .ref 66), (1, .int x1), (2, .int (x2 + 1))]) 2 dX12_findTies_413 rfl rfl (by decide) rfl ?_
  refine E_goto (tgt := 343) dX12_findTies_416 (by decide) ?_
  exact EvV.tr hB rfl

set_option maxRecDepth 20000 in
set_option maxHeartbeats 2000000 in
theorem kX12_rowOf_0 {K : KT} {G : St} {Q : Int32 → St → Prop} {x0 : Int32} (hL : Lay G.2.2) 
    (hB : EvI K mX12_rowOf 0 5 [(0, .int x0), (1, .int 0), (2, .int 16)] [] G Q) :
    EvI K mX12_rowOf 0 0 [(0, .int x0)] [] G Q := by
  refine E_iconst (v := 0) dX12_rowOf_0 (by decide) ?_
  refine E_istore_n (lv' := [(0, .int x0), (1, .int 0)]) dX12_rowOf_1 rfl (by decide) rfl ?_
  refine E_bipush (v := 16) dX12_rowOf_2 (by decide) ?_
  refine E_istore_n (lv' := [(0, .int x0), (1, .int 0), (2, .int 16)]) dX12_rowOf_4 rfl (by decide) rfl ?_
  exact EvI.tr hB rfl

set_option maxRecDepth 20000 in
set_option maxHeartbeats 2000000 in
theorem kX12_rowOf_5 {K : KT} {G : St} {Q : Int32 → St → Prop} {x0 : Int32} {x1 : Int32} {x2 : Int32} (hL : Lay G.2.2) 
    (hB : ((x2 ≤ 0 → Q x1 G) ∧ (¬ x2 ≤ 0 → (((x0 >>> (x1 &&& 31)) < (1 <<< (x2 &&& 31)) → EvI K mX12_rowOf 0 24 [(0, .int x0), (2, .int x2)] [.int 0, .int x1] G Q) ∧ (¬ (x0 >>> (x1 &&& 31)) < (1 <<< (x2 &&& 31)) → EvI K mX12_rowOf 0 24 [(0, .int x0), (2, .int x2)] [.int x2, .int x1] G Q))))) :
    EvI K mX12_rowOf 0 5 [(0, .int x0), (1, .int x1), (2, .int x2)] [] G Q := by
  refine E_iload_n 2 dX12_rowOf_5 rfl rfl ?_
  refine E_if_le (tgt := 33) dX12_rowOf_6 (by decide) (fun c => ?_) (fun c => ?_)
  · have hB := hB.1 c
    refine E_iload_n 1 dX12_rowOf_33 rfl rfl ?_
    exact E_iret rfl dX12_rowOf_34 ⟨_, rfl, rfl, hB⟩
  · have hB := hB.2 c
    refine E_iload_n 1 dX12_rowOf_9 rfl rfl ?_
    refine E_iload_n 0 dX12_rowOf_10 rfl rfl ?_
    refine E_iload_n 1 dX12_rowOf_11 rfl rfl ?_
    refine E_ishr dX12_rowOf_12 ?_
    refine E_iconst (v := 1) dX12_rowOf_13 (by decide) ?_
    refine E_iload_n 2 dX12_rowOf_14 rfl rfl ?_
    refine E_ishl dX12_rowOf_15 ?_
    refine E_icmp_lt (tgt := 23) dX12_rowOf_16 (by decide) (fun c => ?_) (fun c => ?_)
    · have hB := hB.1 c
      refine E_iconst (v := 0) dX12_rowOf_23 (by decide) ?_
      refine E_sub (lv' := [(0, .int x0), (2, .int x2)]) [0, 2] rfl ?_
      exact EvI.tr hB rfl
    · have hB := hB.2 c
      refine E_iload_n 2 dX12_rowOf_19 rfl rfl ?_
      refine E_goto (tgt := 24) dX12_rowOf_20 (by decide) ?_
      refine E_sub (lv' := [(0, .int x0), (2, .int x2)]) [0, 2] rfl ?_
      exact EvI.tr hB rfl

set_option maxRecDepth 20000 in
set_option maxHeartbeats 2000000 in
theorem kX12_rowOf_24 {K : KT} {G : St} {Q : Int32 → St → Prop} {x0 : Int32} {x2 : Int32} {xs0 : Int32} {xs1 : Int32} (hL : Lay G.2.2) 
    (hB : EvI K mX12_rowOf 0 5 [(0, .int x0), (1, .int (xs0 + xs1)), (2, .int (x2 / 2))] [] G Q) :
    EvI K mX12_rowOf 0 24 [(0, .int x0), (2, .int x2)] [.int xs1, .int xs0] G Q := by
  refine E_iadd dX12_rowOf_24 ?_
  refine E_istore_n (lv' := [(0, .int x0), (1, .int (xs0 + xs1)), (2, .int x2)]) dX12_rowOf_25 rfl (by decide) rfl ?_
  refine E_iload_n 2 dX12_rowOf_26 rfl rfl ?_
  refine E_iconst (v := 2) dX12_rowOf_27 (by decide) ?_
  refine E_idiv dX12_rowOf_28 (by decide) ?_
  refine E_istore_n (lv' := [(0, .int x0), (1, .int (xs0 + xs1)), (2, .int (x2 / 2))]) dX12_rowOf_29 rfl (by decide) rfl ?_
  refine E_goto (tgt := 5) dX12_rowOf_30 (by decide) ?_
  exact EvI.tr hB rfl

set_option maxRecDepth 20000 in
set_option maxHeartbeats 2000000 in
theorem kX12_hang_0 {K : KT} {G : St} {Q : Int32 → St → Prop} {x1 : Int32} (hL : Lay G.2.2) 
    (hB : EvI K mX12_hang 1 7 [(0, .ref 66), (1, .int x1), (2, .int (x1 &&& (-x1))), (3, .int 0)] [] G Q) :
    EvI K mX12_hang 1 0 [(0, .ref 66), (1, .int x1)] [] G Q := by
  refine E_iload_n 1 dX12_hang_0 rfl rfl ?_
  refine E_iload_n 1 dX12_hang_1 rfl rfl ?_
  refine E_ineg dX12_hang_2 ?_
  refine E_iand dX12_hang_3 ?_
  refine E_istore_n (lv' := [(0, .ref 66), (1, .int x1), (2, .int (x1 &&& (-x1)))]) dX12_hang_4 rfl (by decide) rfl ?_
  refine E_iconst (v := 0) dX12_hang_5 (by decide) ?_
  refine E_istore_n (lv' := [(0, .ref 66), (1, .int x1), (2, .int (x1 &&& (-x1))), (3, .int 0)]) dX12_hang_6 rfl (by decide) rfl ?_
  exact EvI.tr hB rfl

set_option maxRecDepth 20000 in
set_option maxHeartbeats 2000000 in
theorem kX12_hang_7 {K : KT} {G : St} {Q : Int32 → St → Prop} {x1 : Int32} {x2 : Int32} {x3 : Int32} (hL : Lay G.2.2) 
    (hB : ((x2 = x3 → ((¬ x2 = x1 → Q 0 G) ∧ (x2 = x1 → Q 1 G))) ∧ (¬ x2 = x3 → EvI K mX12_hang 1 17 [(0, .ref 66), (1, .int x1), (2, .int x2), (3, .int x2), (4, .int x2)] [] G Q))) :
    EvI K mX12_hang 1 7 [(0, .ref 66), (1, .int x1), (2, .int x2), (3, .int x3)] [] G Q := by
  refine E_iload_n 2 dX12_hang_7 rfl rfl ?_
  refine E_iload_n 3 dX12_hang_8 rfl rfl ?_
  refine E_icmp_eq (tgt := 56) dX12_hang_9 (by decide) (fun c => ?_) (fun c => ?_)
  · have hB := hB.1 c
    refine E_iload_n 2 dX12_hang_56 rfl rfl ?_
    refine E_iload_n 1 dX12_hang_57 rfl rfl ?_
    refine E_icmp_ne (tgt := 65) dX12_hang_58 (by decide) (fun c => ?_) (fun c => ?_)
    · have hB := hB.1 c
      refine E_iconst (v := 0) dX12_hang_65 (by decide) ?_
      exact E_zret rfl (Or.inl rfl) dX12_hang_66 ⟨_, rfl, rfl, hB⟩
    · have hB := hB.2 c
      refine E_iconst (v := 1) dX12_hang_61 (by decide) ?_
      refine E_goto (tgt := 66) dX12_hang_62 (by decide) ?_
      exact E_zret rfl (Or.inr rfl) dX12_hang_66 ⟨_, rfl, rfl, hB⟩
  · have hB := hB.2 c
    refine E_iload_n 2 dX12_hang_12 rfl rfl ?_
    refine E_istore_n (lv' := [(0, .ref 66), (1, .int x1), (2, .int x2), (3, .int x2)]) dX12_hang_13 rfl (by decide) rfl ?_
    refine E_iload_n 2 dX12_hang_14 rfl rfl ?_
    refine E_istore (lv' := [(0, .ref 66), (1, .int x1), (2, .int x2), (3, .int x2), (4, .int x2)]) dX12_hang_15 (by decide) rfl ?_
    exact EvI.tr hB rfl

set_option maxRecDepth 20000 in
set_option maxHeartbeats 2000000 in
theorem kX12_hang_17 {K : KT} {G : St} {Q : Int32 → St → Prop} {x1 : Int32} {x2 : Int32} {x3 : Int32} {x4 : Int32} (hL : Lay G.2.2) 
    (hB : ((x4 = 0 → EvI K mX12_hang 1 7 [(0, .ref 66), (1, .int x1), (2, .int x2), (3, .int x3)] [] G Q) ∧ (¬ x4 = 0 → EvI K mX12_rowOf 0 0 [(0, .int (x4 &&& (-x4)))] [] G (fun r1 G1 => vp_in r1 30 ∧ EvI K mX12_hang 1 17 [(0, .ref 66), (1, .int x1), (2, .int (x2 ||| ((sI G1 87 (Int32.toNatClampNeg r1)) &&& x1))), (3, .int x3), (4, .int (x4 &&& (x4 - 1)))] [] G1 Q)))) :
    EvI K mX12_hang 1 17 [(0, .ref 66), (1, .int x1), (2, .int x2), (3, .int x3), (4, .int x4)] [] G Q := by
  refine E_iload 4 dX12_hang_17 rfl ?_
  refine E_if_eq (tgt := 53) dX12_hang_19 (by decide) (fun c => ?_) (fun c => ?_)
  · have hB := hB.1 c
    refine E_goto (tgt := 7) dX12_hang_53 (by decide) ?_
    refine E_sub (lv' := [(0, .ref 66), (1, .int x1), (2, .int x2), (3, .int x3)]) [0, 1, 2, 3] rfl ?_
    exact EvI.tr hB rfl
  · have hB := hB.2 c
    refine E_iload_n 2 dX12_hang_22 rfl rfl ?_
    refine E_aload_n 0 dX12_hang_23 rfl rfl rfl ?_
    refine E_gR (j := 87) fG_X12_99 rfl (lo_66 hL) (lr_66_34 hL) (by decide) dX12_hang_24 ?_
    refine E_iload 4 dX12_hang_27 rfl ?_
    refine E_iload 4 dX12_hang_29 rfl ?_
    refine E_ineg dX12_hang_31 ?_
    refine E_iand dX12_hang_32 ?_
    refine E_callS (as := [.int (x4 &&& (-x4))]) (st := [.ref 87, .int x2]) cm_X12_rowOf cS_X12_351 rfl rfl (by decide) (Nat.le_of_ble_eq_true rfl) (Nat.le_of_ble_eq_true rfl) dX12_hang_33 hB (fun r G1 hr => ?_)
    obtain ⟨r1, rfl, hE1, hB⟩ := hr
    have hL1 : Lay G1.2.2 := by rw [hE1]; exact hL
    have hE1 : G1.2.2 = G.2.2 := hE1
    show Ev K mX12_hang 1 36 [(0, .ref 66), (1, .int x1), (2, .int x2), (3, .int x3), (4, .int x4)] [.int r1, .ref 87, .int x2] G1 _
    obtain ⟨qq2, hB⟩ := hB
    refine E_aI (p := Int32.toNatClampNeg r1) (v := sI G1 87 (Int32.toNatClampNeg r1)) (la_87 hL1) qq2 rfl rfl dX12_hang_36 ?_
    refine E_iload_n 1 dX12_hang_37 rfl rfl ?_
    refine E_iand dX12_hang_38 ?_
    refine E_ior dX12_hang_39 ?_
    refine E_istore_n (lv' := [(0, .ref 66), (1, .int x1), (2, .int (x2 ||| ((sI G1 87 (Int32.toNatClampNeg r1)) &&& x1))), (3, .int x3), (4, .int x4)]) dX12_hang_40 rfl (by decide) rfl ?_
    refine E_iload 4 dX12_hang_41 rfl ?_
    refine E_iload 4 dX12_hang_43 rfl ?_
    refine E_iconst (v := 1) dX12_hang_45 (by decide) ?_
    refine E_isub dX12_hang_46 ?_
    refine E_iand dX12_hang_47 ?_
    refine E_istore (lv' := [(0, .ref 66), (1, .int x1), (2, .int (x2 ||| ((sI G1 87 (Int32.toNatClampNeg r1)) &&& x1))), (3, .int x3), (4, .int (x4 &&& (x4 - 1)))]) dX12_hang_48 (by decide) rfl ?_
    refine E_goto (tgt := 17) dX12_hang_50 (by decide) ?_
    exact EvI.tr hB hE1

set_option maxRecDepth 20000 in
set_option maxHeartbeats 2000000 in
theorem kX12_heldIn_0 {K : KT} {G : St} {Q : Int32 → St → Prop} {x1 : Int32} (hL : Lay G.2.2) 
    (hB : EvI K mX12_heldIn 1 4 [(0, .ref 66), (2, .int 0), (3, .int x1)] [] G Q) :
    EvI K mX12_heldIn 1 0 [(0, .ref 66), (1, .int x1)] [] G Q := by
  refine E_iconst (v := 0) dX12_heldIn_0 (by decide) ?_
  refine E_istore_n (lv' := [(0, .ref 66), (1, .int x1), (2, .int 0)]) dX12_heldIn_1 rfl (by decide) rfl ?_
  refine E_iload_n 1 dX12_heldIn_2 rfl rfl ?_
  refine E_istore_n (lv' := [(0, .ref 66), (1, .int x1), (2, .int 0), (3, .int x1)]) dX12_heldIn_3 rfl (by decide) rfl ?_
  refine E_sub (lv' := [(0, .ref 66), (2, .int 0), (3, .int x1)]) [0, 2, 3] rfl ?_
  exact EvI.tr hB rfl

set_option maxRecDepth 20000 in
set_option maxHeartbeats 2000000 in
theorem kX12_heldIn_4 {K : KT} {G : St} {Q : Int32 → St → Prop} {x2 : Int32} {x3 : Int32} (hL : Lay G.2.2) 
    (hB : ((x3 = 0 → Q x2 G) ∧ (¬ x3 = 0 → EvI K mX12_rowOf 0 0 [(0, .int (x3 &&& (-x3)))] [] G (fun r1 G1 => vp_in r1 30 ∧ EvI K mX12_heldIn 1 4 [(0, .ref 66), (2, .int (x2 ||| (sI G1 88 (Int32.toNatClampNeg r1)))), (3, .int (x3 &&& (x3 - 1)))] [] G1 Q)))) :
    EvI K mX12_heldIn 1 4 [(0, .ref 66), (2, .int x2), (3, .int x3)] [] G Q := by
  refine E_iload_n 2 dX12_heldIn_4 rfl rfl ?_
  refine E_if_eq (tgt := 32) dX12_heldIn_5 (by decide) (fun c => ?_) (fun c => ?_)
  · have hB := hB.1 c
    refine E_iload_n 1 dX12_heldIn_32 rfl rfl ?_
    exact E_iret rfl dX12_heldIn_33 ⟨_, rfl, rfl, hB⟩
  · have hB := hB.2 c
    refine E_iload_n 1 dX12_heldIn_8 rfl rfl ?_
    refine E_aload_n 0 dX12_heldIn_9 rfl rfl rfl ?_
    refine E_gR (j := 88) fG_X12_102 rfl (lo_66 hL) (lr_66_35 hL) (by decide) dX12_heldIn_10 ?_
    refine E_iload_n 2 dX12_heldIn_13 rfl rfl ?_
    refine E_iload_n 2 dX12_heldIn_14 rfl rfl ?_
    refine E_ineg dX12_heldIn_15 ?_
    refine E_iand dX12_heldIn_16 ?_
    refine E_callS (as := [.int (x3 &&& (-x3))]) (st := [.ref 88, .int x2]) cm_X12_rowOf cS_X12_351 rfl rfl (by decide) (Nat.le_of_ble_eq_true rfl) (Nat.le_of_ble_eq_true rfl) dX12_heldIn_17 hB (fun r G1 hr => ?_)
    obtain ⟨r1, rfl, hE1, hB⟩ := hr
    have hL1 : Lay G1.2.2 := by rw [hE1]; exact hL
    have hE1 : G1.2.2 = G.2.2 := hE1
    show Ev K mX12_heldIn 1 20 [(0, .ref 66), (2, .int x2), (3, .int x3)] [.int r1, .ref 88, .int x2] G1 _
    obtain ⟨qq2, hB⟩ := hB
    refine E_aI (p := Int32.toNatClampNeg r1) (v := sI G1 88 (Int32.toNatClampNeg r1)) (la_88 hL1) qq2 rfl rfl dX12_heldIn_20 ?_
    refine E_ior dX12_heldIn_21 ?_
    refine E_istore_n (lv' := [(0, .ref 66), (2, .int (x2 ||| (sI G1 88 (Int32.toNatClampNeg r1)))), (3, .int x3)]) dX12_heldIn_22 rfl (by decide) rfl ?_
    refine E_iload_n 2 dX12_heldIn_23 rfl rfl ?_
    refine E_iload_n 2 dX12_heldIn_24 rfl rfl ?_
    refine E_iconst (v := 1) dX12_heldIn_25 (by decide) ?_
    refine E_isub dX12_heldIn_26 ?_
    refine E_iand dX12_heldIn_27 ?_
    refine E_istore_n (lv' := [(0, .ref 66), (2, .int (x2 ||| (sI G1 88 (Int32.toNatClampNeg r1)))), (3, .int (x3 &&& (x3 - 1)))]) dX12_heldIn_28 rfl (by decide) rfl ?_
    refine E_goto (tgt := 4) dX12_heldIn_29 (by decide) ?_
    exact EvI.tr hB hE1

set_option maxRecDepth 20000 in
set_option maxHeartbeats 2000000 in
theorem kX12_isJoining_0 {K : KT} {G : St} {Q : Int32 → St → Prop} {x1 : Int32} {x2 : Int32} (hL : Lay G.2.2) 
    (hB : EvI K mX12_heldIn 1 0 [(0, .ref 66), (1, .int x1)] [] G (fun r1 G1 => ((r1 = x2 → EvI K mX12_isJoining 2 13 [(0, .ref 66), (1, .int x1), (2, .int x2), (3, .int x1)] [] G1 Q) ∧ (¬ r1 = x2 → Q 0 G1)))) :
    EvI K mX12_isJoining 2 0 [(0, .ref 66), (1, .int x1), (2, .int x2)] [] G Q := by
  refine E_aload_n 0 dX12_isJoining_0 rfl rfl rfl ?_
  refine E_iload_n 1 dX12_isJoining_1 rfl rfl ?_
  refine E_cV (ci := 11) (as := [.int x1]) (st := []) cm_X12_heldIn cV_X12_354 ⟨_, _, rfl⟩ (by decide) (lo_66 hL) rfl rfl (by decide) (Nat.le_of_ble_eq_true rfl) (Nat.le_of_ble_eq_true rfl) dX12_isJoining_2 hB (fun r G1 hr => ?_)
  obtain ⟨r1, rfl, hE1, hB⟩ := hr
  have hL1 : Lay G1.2.2 := by rw [hE1]; exact hL
  have hE1 : G1.2.2 = G.2.2 := hE1
  show Ev K mX12_isJoining 2 5 [(0, .ref 66), (1, .int x1), (2, .int x2)] [.int r1] G1 _
  refine E_iload_n 2 dX12_isJoining_5 rfl rfl ?_
  refine E_icmp_eq (tgt := 11) dX12_isJoining_6 (by decide) (fun c => ?_) (fun c => ?_)
  · have hB := hB.1 c
    refine E_iload_n 1 dX12_isJoining_11 rfl rfl ?_
    refine E_istore_n (lv' := [(0, .ref 66), (1, .int x1), (2, .int x2), (3, .int x1)]) dX12_isJoining_12 rfl (by decide) rfl ?_
    exact EvI.tr hB hE1
  · have hB := hB.2 c
    refine E_iconst (v := 0) dX12_isJoining_9 (by decide) ?_
    exact E_zret rfl (Or.inl rfl) dX12_isJoining_10 ⟨_, rfl, hE1, hB⟩

set_option maxRecDepth 20000 in
set_option maxHeartbeats 2000000 in
theorem kX12_isJoining_13 {K : KT} {G : St} {Q : Int32 → St → Prop} {x1 : Int32} {x2 : Int32} {x3 : Int32} (hL : Lay G.2.2) 
    (hB : ((x3 = 0 → Q 1 G) ∧ (¬ x3 = 0 → (((x1 &&& ((x3 &&& (-x3)) ^^^ (-1))) = 0 → EvI K mX12_isJoining 2 53 [(0, .ref 66), (1, .int x1), (2, .int x2), (3, .int x3)] [] G Q) ∧ (¬ (x1 &&& ((x3 &&& (-x3)) ^^^ (-1))) = 0 → EvI K mX12_heldIn 1 0 [(0, .ref 66), (1, .int (x1 &&& ((x3 &&& (-x3)) ^^^ (-1))))] [] G (fun r1 G1 => ((¬ r1 = x2 → EvI K mX12_isJoining 2 53 [(0, .ref 66), (1, .int x1), (2, .int x2), (3, .int x3)] [] G1 Q) ∧ (r1 = x2 → EvI K mX12_hang 1 0 [(0, .ref 66), (1, .int (x1 &&& ((x3 &&& (-x3)) ^^^ (-1))))] [] G1 (fun r2 G2 => ((r2 = 0 → EvI K mX12_isJoining 2 53 [(0, .ref 66), (1, .int x1), (2, .int x2), (3, .int x3)] [] G2 Q) ∧ (¬ r2 = 0 → Q 0 G2))))))))))) :
    EvI K mX12_isJoining 2 13 [(0, .ref 66), (1, .int x1), (2, .int x2), (3, .int x3)] [] G Q := by
  refine E_iload_n 3 dX12_isJoining_13 rfl rfl ?_
  refine E_if_eq (tgt := 62) dX12_isJoining_14 (by decide) (fun c => ?_) (fun c => ?_)
  · have hB := hB.1 c
    refine E_iconst (v := 1) dX12_isJoining_62 (by decide) ?_
    exact E_zret rfl (Or.inr rfl) dX12_isJoining_63 ⟨_, rfl, rfl, hB⟩
  · have hB := hB.2 c
    refine E_iload_n 1 dX12_isJoining_17 rfl rfl ?_
    refine E_iload_n 3 dX12_isJoining_18 rfl rfl ?_
    refine E_iload_n 3 dX12_isJoining_19 rfl rfl ?_
    refine E_ineg dX12_isJoining_20 ?_
    refine E_iand dX12_isJoining_21 ?_
    refine E_iconst (v := (-1)) dX12_isJoining_22 (by decide) ?_
    refine E_ixor dX12_isJoining_23 ?_
    refine E_iand dX12_isJoining_24 ?_
    refine E_istore (lv' := [(0, .ref 66), (1, .int x1), (2, .int x2), (3, .int x3), (4, .int (x1 &&& ((x3 &&& (-x3)) ^^^ (-1))))]) dX12_isJoining_25 (by decide) rfl ?_
    refine E_iload 4 dX12_isJoining_27 rfl ?_
    refine E_if_eq (tgt := 53) dX12_isJoining_29 (by decide) (fun c => ?_) (fun c => ?_)
    · have hB := hB.1 c
      refine E_sub (lv' := [(0, .ref 66), (1, .int x1), (2, .int x2), (3, .int x3)]) [0, 1, 2, 3] rfl ?_
      exact EvI.tr hB rfl
    · have hB := hB.2 c
      refine E_aload_n 0 dX12_isJoining_32 rfl rfl rfl ?_
      refine E_iload 4 dX12_isJoining_33 rfl ?_
      refine E_cV (ci := 11) (as := [.int (x1 &&& ((x3 &&& (-x3)) ^^^ (-1)))]) (st := []) cm_X12_heldIn cV_X12_354 ⟨_, _, rfl⟩ (by decide) (lo_66 hL) rfl rfl (by decide) (Nat.le_of_ble_eq_true rfl) (Nat.le_of_ble_eq_true rfl) dX12_isJoining_35 hB (fun r G1 hr => ?_)
      obtain ⟨r1, rfl, hE1, hB⟩ := hr
      have hL1 : Lay G1.2.2 := by rw [hE1]; exact hL
      have hE1 : G1.2.2 = G.2.2 := hE1
      show Ev K mX12_isJoining 2 38 [(0, .ref 66), (1, .int x1), (2, .int x2), (3, .int x3), (4, .int (x1 &&& ((x3 &&& (-x3)) ^^^ (-1))))] [.int r1] G1 _
      refine E_iload_n 2 dX12_isJoining_38 rfl rfl ?_
      refine E_icmp_ne (tgt := 53) dX12_isJoining_39 (by decide) (fun c => ?_) (fun c => ?_)
      · have hB := hB.1 c
        refine E_sub (lv' := [(0, .ref 66), (1, .int x1), (2, .int x2), (3, .int x3)]) [0, 1, 2, 3] rfl ?_
        exact EvI.tr hB hE1
      · have hB := hB.2 c
        refine E_aload_n 0 dX12_isJoining_42 rfl rfl rfl ?_
        refine E_iload 4 dX12_isJoining_43 rfl ?_
        refine E_cV (ci := 11) (as := [.int (x1 &&& ((x3 &&& (-x3)) ^^^ (-1)))]) (st := []) cm_X12_hang cV_X12_357 ⟨_, _, rfl⟩ (by decide) (lo_66 hL1) rfl rfl (by decide) (Nat.le_of_ble_eq_true rfl) (Nat.le_of_ble_eq_true rfl) dX12_isJoining_45 hB (fun r G2 hr => ?_)
        obtain ⟨r2, rfl, hE2, hB⟩ := hr
        have hL2 : Lay G2.2.2 := by rw [hE2]; exact hL1
        have hE2 : G2.2.2 = G.2.2 := hE2.trans hE1
        show Ev K mX12_isJoining 2 48 [(0, .ref 66), (1, .int x1), (2, .int x2), (3, .int x3), (4, .int (x1 &&& ((x3 &&& (-x3)) ^^^ (-1))))] [.int r2] G2 _
        refine E_if_eq (tgt := 53) dX12_isJoining_48 (by decide) (fun c => ?_) (fun c => ?_)
        · have hB := hB.1 c
          refine E_sub (lv' := [(0, .ref 66), (1, .int x1), (2, .int x2), (3, .int x3)]) [0, 1, 2, 3] rfl ?_
          exact EvI.tr hB hE2
        · have hB := hB.2 c
          refine E_iconst (v := 0) dX12_isJoining_51 (by decide) ?_
          exact E_zret rfl (Or.inl rfl) dX12_isJoining_52 ⟨_, rfl, hE2, hB⟩

set_option maxRecDepth 20000 in
set_option maxHeartbeats 2000000 in
theorem kX12_isJoining_53 {K : KT} {G : St} {Q : Int32 → St → Prop} {x1 : Int32} {x2 : Int32} {x3 : Int32} (hL : Lay G.2.2) 
    (hB : EvI K mX12_isJoining 2 13 [(0, .ref 66), (1, .int x1), (2, .int x2), (3, .int (x3 &&& (x3 - 1)))] [] G Q) :
    EvI K mX12_isJoining 2 53 [(0, .ref 66), (1, .int x1), (2, .int x2), (3, .int x3)] [] G Q := by
  refine E_iload_n 3 dX12_isJoining_53 rfl rfl ?_
  refine E_iload_n 3 dX12_isJoining_54 rfl rfl ?_
  refine E_iconst (v := 1) dX12_isJoining_55 (by decide) ?_
  refine E_isub dX12_isJoining_56 ?_
  refine E_iand dX12_isJoining_57 ?_
  refine E_istore_n (lv' := [(0, .ref 66), (1, .int x1), (2, .int x2), (3, .int (x3 &&& (x3 - 1)))]) dX12_isJoining_58 rfl (by decide) rfl ?_
  refine E_goto (tgt := 13) dX12_isJoining_59 (by decide) ?_
  exact EvI.tr hB rfl

set_option maxRecDepth 20000 in
set_option maxHeartbeats 2000000 in
theorem kX12_tiesOf_0 {K : KT} {G : St} {Q : Int32 → St → Prop} {x1 : Int32} (hL : Lay G.2.2) 
    (hB : EvI K mX12_tiesOf 0 7 [(0, .ref 66), (1, .int x1), (2, .int (x1 &&& (-x1))), (3, .int 0)] [] G Q) :
    EvI K mX12_tiesOf 0 0 [(0, .ref 66), (1, .int x1)] [] G Q := by
  refine E_iload_n 1 dX12_tiesOf_0 rfl rfl ?_
  refine E_iload_n 1 dX12_tiesOf_1 rfl rfl ?_
  refine E_ineg dX12_tiesOf_2 ?_
  refine E_iand dX12_tiesOf_3 ?_
  refine E_istore_n (lv' := [(0, .ref 66), (1, .int x1), (2, .int (x1 &&& (-x1)))]) dX12_tiesOf_4 rfl (by decide) rfl ?_
  refine E_iconst (v := 0) dX12_tiesOf_5 (by decide) ?_
  refine E_istore_n (lv' := [(0, .ref 66), (1, .int x1), (2, .int (x1 &&& (-x1))), (3, .int 0)]) dX12_tiesOf_6 rfl (by decide) rfl ?_
  exact EvI.tr hB rfl

set_option maxRecDepth 20000 in
set_option maxHeartbeats 2000000 in
theorem kX12_tiesOf_7 {K : KT} {G : St} {Q : Int32 → St → Prop} {x1 : Int32} {x2 : Int32} {x3 : Int32} (hL : Lay G.2.2) 
    (hB : ((x2 = x1 → Q x3 G) ∧ (¬ x2 = x1 → EvI K mX12_tiesOf 0 21 [(0, .ref 66), (1, .int x1), (2, .int x2), (3, .int x3), (4, .int (-1)), (5, .int 0), (6, .int 0)] [] G Q))) :
    EvI K mX12_tiesOf 0 7 [(0, .ref 66), (1, .int x1), (2, .int x2), (3, .int x3)] [] G Q := by
  refine E_iload_n 2 dX12_tiesOf_7 rfl rfl ?_
  refine E_iload_n 1 dX12_tiesOf_8 rfl rfl ?_
  refine E_icmp_eq (tgt := 144) dX12_tiesOf_9 (by decide) (fun c => ?_) (fun c => ?_)
  · have hB := hB.1 c
    refine E_iload_n 3 dX12_tiesOf_144 rfl rfl ?_
    exact E_iret rfl dX12_tiesOf_145 ⟨_, rfl, rfl, hB⟩
  · have hB := hB.2 c
    refine E_iconst (v := (-1)) dX12_tiesOf_12 (by decide) ?_
    refine E_istore (lv' := [(0, .ref 66), (1, .int x1), (2, .int x2), (3, .int x3), (4, .int (-1))]) dX12_tiesOf_13 (by decide) rfl ?_
    refine E_iconst (v := 0) dX12_tiesOf_15 (by decide) ?_
    refine E_istore (lv' := [(0, .ref 66), (1, .int x1), (2, .int x2), (3, .int x3), (4, .int (-1)), (5, .int 0)]) dX12_tiesOf_16 (by decide) rfl ?_
    refine E_iconst (v := 0) dX12_tiesOf_18 (by decide) ?_
    refine E_istore (lv' := [(0, .ref 66), (1, .int x1), (2, .int x2), (3, .int x3), (4, .int (-1)), (5, .int 0), (6, .int 0)]) dX12_tiesOf_19 (by decide) rfl ?_
    exact EvI.tr hB rfl

set_option maxRecDepth 20000 in
set_option maxHeartbeats 2000000 in
theorem kX12_tiesOf_21 {K : KT} {G : St} {Q : Int32 → St → Prop} {x1 : Int32} {x2 : Int32} {x3 : Int32} {x4 : Int32} {x5 : Int32} {x6 : Int32} (hL : Lay G.2.2) 
    (hB : (((sI G 66 16) ≤ x6 → EvI K mX12_tiesOf 0 7 [(0, .ref 66), (1, .int x1), (2, .int (x2 ||| x5)), (3, .int (x3 + x4))] [] G Q) ∧ (¬ (sI G 66 16) ≤ x6 → EvI K mX12_tiesOf 0 33 [(0, .ref 66), (1, .int x1), (2, .int x2), (3, .int x3), (4, .int x4), (5, .int x5), (6, .int x6), (7, .int 0)] [] G Q))) :
    EvI K mX12_tiesOf 0 21 [(0, .ref 66), (1, .int x1), (2, .int x2), (3, .int x3), (4, .int x4), (5, .int x5), (6, .int x6)] [] G Q := by
  refine E_iload 6 dX12_tiesOf_21 rfl ?_
  refine E_aload_n 0 dX12_tiesOf_23 rfl rfl rfl ?_
  refine E_gI (v := sI G 66 16) fG_X12_223 rfl (lo_66 hL) rfl dX12_tiesOf_24 ?_
  refine E_icmp_ge (tgt := 131) dX12_tiesOf_27 (by decide) (fun c => ?_) (fun c => ?_)
  · have hB := hB.1 c
    refine E_iload_n 3 dX12_tiesOf_131 rfl rfl ?_
    refine E_iload 4 dX12_tiesOf_132 rfl ?_
    refine E_iadd dX12_tiesOf_134 ?_
    refine E_istore_n (lv' := [(0, .ref 66), (1, .int x1), (2, .int x2), (3, .int (x3 + x4)), (4, .int x4), (5, .int x5), (6, .int x6)]) dX12_tiesOf_135 rfl (by decide) rfl ?_
    refine E_iload_n 2 dX12_tiesOf_136 rfl rfl ?_
    refine E_iload 5 dX12_tiesOf_137 rfl ?_
    refine E_ior dX12_tiesOf_139 ?_
    refine E_istore_n (lv' := [(0, .ref 66), (1, .int x1), (2, .int (x2 ||| x5)), (3, .int (x3 + x4)), (4, .int x4), (5, .int x5), (6, .int x6)]) dX12_tiesOf_140 rfl (by decide) rfl ?_
    refine E_goto (tgt := 7) dX12_tiesOf_141 (by decide) ?_
    refine E_sub (lv' := [(0, .ref 66), (1, .int x1), (2, .int (x2 ||| x5)), (3, .int (x3 + x4))]) [0, 1, 2, 3] rfl ?_
    exact EvI.tr hB rfl
  · have hB := hB.2 c
    refine E_iconst (v := 0) dX12_tiesOf_30 (by decide) ?_
    refine E_istore (lv' := [(0, .ref 66), (1, .int x1), (2, .int x2), (3, .int x3), (4, .int x4), (5, .int x5), (6, .int x6), (7, .int 0)]) dX12_tiesOf_31 (by decide) rfl ?_
    exact EvI.tr hB rfl

set_option maxRecDepth 20000 in
set_option maxHeartbeats 2000000 in
theorem kX12_tiesOf_33 {K : KT} {G : St} {Q : Int32 → St → Prop} {x1 : Int32} {x2 : Int32} {x3 : Int32} {x4 : Int32} {x5 : Int32} {x6 : Int32} {x7 : Int32} (hL : Lay G.2.2) 
    (hB : (((sI G 66 16) ≤ x7 → EvI K mX12_tiesOf 0 125 [(0, .ref 66), (1, .int x1), (2, .int x2), (3, .int x3), (4, .int x4), (5, .int x5), (6, .int x6)] [] G Q) ∧ (¬ (sI G 66 16) ≤ x7 → ((¬ ((x2 >>> (x6 &&& 31)) &&& 1) = 1 → EvI K mX12_tiesOf 0 125 [(0, .ref 66), (1, .int x1), (2, .int x2), (3, .int x3), (4, .int x4), (5, .int x5), (6, .int x6)] [] G Q) ∧ (((x2 >>> (x6 &&& 31)) &&& 1) = 1 → vp_in ((30 * x6) + x7) 900 ∧ ((((x1 &&& (x2 ^^^ (-1))) >>> (x7 &&& 31)) = 0 → EvI K mX12_tiesOf 0 119 [(0, .ref 66), (1, .int x1), (2, .int x2), (3, .int x3), (4, .int x4), (5, .int x5), (6, .int x6), (7, .int x7)] [] G Q) ∧ (¬ ((x1 &&& (x2 ^^^ (-1))) >>> (x7 &&& 31)) = 0 → ((¬ (((x1 &&& (x2 ^^^ (-1))) >>> (x7 &&& 31)) &&& 1) = 1 → EvI K mX12_tiesOf 0 119 [(0, .ref 66), (1, .int x1), (2, .int x2), (3, .int x3), (4, .int x4), (5, .int x5), (6, .int x6), (7, .int x7)] [] G Q) ∧ ((((x1 &&& (x2 ^^^ (-1))) >>> (x7 &&& 31)) &&& 1) = 1 → (((sI G 86 (Int32.toNatClampNeg ((30 * x6) + x7))) < 0 → EvI K mX12_tiesOf 0 119 [(0, .ref 66), (1, .int x1), (2, .int x2), (3, .int x3), (4, .int x4), (5, .int x5), (6, .int x6), (7, .int x7)] [] G Q) ∧ (¬ (sI G 86 (Int32.toNatClampNeg ((30 * x6) + x7))) < 0 → ((x4 < 0 → EvI K mX12_tiesOf 0 109 [(0, .ref 66), (1, .int x1), (2, .int x2), (3, .int x3), (6, .int x6), (7, .int x7), (8, .int (sI G 86 (Int32.toNatClampNeg ((30 * x6) + x7))))] [] G Q) ∧ (¬ x4 < 0 → ((x4 ≤ (sI G 86 (Int32.toNatClampNeg ((30 * x6) + x7))) → EvI K mX12_tiesOf 0 119 [(0, .ref 66), (1, .int x1), (2, .int x2), (3, .int x3), (4, .int x4), (5, .int x5), (6, .int x6), (7, .int x7)] [] G Q) ∧ (¬ x4 ≤ (sI G 86 (Int32.toNatClampNeg ((30 * x6) + x7))) → EvI K mX12_tiesOf 0 109 [(0, .ref 66), (1, .int x1), (2, .int x2), (3, .int x3), (6, .int x6), (7, .int x7), (8, .int (sI G 86 (Int32.toNatClampNeg ((30 * x6) + x7))))] [] G Q))))))))))))))) :
    EvI K mX12_tiesOf 0 33 [(0, .ref 66), (1, .int x1), (2, .int x2), (3, .int x3), (4, .int x4), (5, .int x5), (6, .int x6), (7, .int x7)] [] G Q := by
  refine E_iload 7 dX12_tiesOf_33 rfl ?_
  refine E_aload_n 0 dX12_tiesOf_35 rfl rfl rfl ?_
  refine E_gI (v := sI G 66 16) fG_X12_223 rfl (lo_66 hL) rfl dX12_tiesOf_36 ?_
  refine E_icmp_ge (tgt := 125) dX12_tiesOf_39 (by decide) (fun c => ?_) (fun c => ?_)
  · have hB := hB.1 c
    refine E_sub (lv' := [(0, .ref 66), (1, .int x1), (2, .int x2), (3, .int x3), (4, .int x4), (5, .int x5), (6, .int x6)]) [0, 1, 2, 3, 4, 5, 6] rfl ?_
    exact EvI.tr hB rfl
  · have hB := hB.2 c
    refine E_iload_n 2 dX12_tiesOf_42 rfl rfl ?_
    refine E_iload 6 dX12_tiesOf_43 rfl ?_
    refine E_ishr dX12_tiesOf_45 ?_
    refine E_iconst (v := 1) dX12_tiesOf_46 (by decide) ?_
    refine E_iand dX12_tiesOf_47 ?_
    refine E_iconst (v := 1) dX12_tiesOf_48 (by decide) ?_
    refine E_icmp_ne (tgt := 125) dX12_tiesOf_49 (by decide) (fun c => ?_) (fun c => ?_)
    · have hB := hB.1 c
      refine E_sub (lv' := [(0, .ref 66), (1, .int x1), (2, .int x2), (3, .int x3), (4, .int x4), (5, .int x5), (6, .int x6)]) [0, 1, 2, 3, 4, 5, 6] rfl ?_
      exact EvI.tr hB rfl
    · have hB := hB.2 c
      refine E_aload_n 0 dX12_tiesOf_52 rfl rfl rfl ?_
      refine E_gR (j := 86) fG_X12_96 rfl (lo_66 hL) (lr_66_33 hL) (by decide) dX12_tiesOf_53 ?_
      refine E_bipush (v := 30) dX12_tiesOf_56 (by decide) ?_
      refine E_iload 6 dX12_tiesOf_58 rfl ?_
      refine E_imul dX12_tiesOf_60 ?_
      refine E_iload 7 dX12_tiesOf_61 rfl ?_
      refine E_iadd dX12_tiesOf_63 ?_
      obtain ⟨qq1, hB⟩ := hB
      refine E_aI (p := Int32.toNatClampNeg ((30 * x6) + x7)) (v := sI G 86 (Int32.toNatClampNeg ((30 * x6) + x7))) (la_86 hL) qq1 rfl rfl dX12_tiesOf_64 ?_
      refine E_istore (lv' := [(0, .ref 66), (1, .int x1), (2, .int x2), (3, .int x3), (4, .int x4), (5, .int x5), (6, .int x6), (7, .int x7), (8, .int (sI G 86 (Int32.toNatClampNeg ((30 * x6) + x7))))]) dX12_tiesOf_65 (by decide) rfl ?_
      refine E_iload_n 1 dX12_tiesOf_67 rfl rfl ?_
      refine E_iload_n 2 dX12_tiesOf_68 rfl rfl ?_
      refine E_iconst (v := (-1)) dX12_tiesOf_69 (by decide) ?_
      refine E_ixor dX12_tiesOf_70 ?_
      refine E_iand dX12_tiesOf_71 ?_
      refine E_iload 7 dX12_tiesOf_72 rfl ?_
      refine E_ishr dX12_tiesOf_74 ?_
      refine E_if_eq (tgt := 119) dX12_tiesOf_75 (by decide) (fun c => ?_) (fun c => ?_)
      · have hB := hB.1 c
        refine E_sub (lv' := [(0, .ref 66), (1, .int x1), (2, .int x2), (3, .int x3), (4, .int x4), (5, .int x5), (6, .int x6), (7, .int x7)]) [0, 1, 2, 3, 4, 5, 6, 7] rfl ?_
        exact EvI.tr hB rfl
      · have hB := hB.2 c
        refine E_iload_n 1 dX12_tiesOf_78 rfl rfl ?_
        refine E_iload_n 2 dX12_tiesOf_79 rfl rfl ?_
        refine E_iconst (v := (-1)) dX12_tiesOf_80 (by decide) ?_
        refine E_ixor dX12_tiesOf_81 ?_
        refine E_iand dX12_tiesOf_82 ?_
        refine E_iload 7 dX12_tiesOf_83 rfl ?_
        refine E_ishr dX12_tiesOf_85 ?_
        refine E_iconst (v := 1) dX12_tiesOf_86 (by decide) ?_
        refine E_iand dX12_tiesOf_87 ?_
        refine E_iconst (v := 1) dX12_tiesOf_88 (by decide) ?_
        refine E_icmp_ne (tgt := 119) dX12_tiesOf_89 (by decide) (fun c => ?_) (fun c => ?_)
        · have hB := hB.1 c
          refine E_sub (lv' := [(0, .ref 66), (1, .int x1), (2, .int x2), (3, .int x3), (4, .int x4), (5, .int x5), (6, .int x6), (7, .int x7)]) [0, 1, 2, 3, 4, 5, 6, 7] rfl ?_
          exact EvI.tr hB rfl
        · have hB := hB.2 c
          refine E_iload 8 dX12_tiesOf_92 rfl ?_
          refine E_if_lt (tgt := 119) dX12_tiesOf_94 (by decide) (fun c => ?_) (fun c => ?_)
          · have hB := hB.1 c
            refine E_sub (lv' := [(0, .ref 66), (1, .int x1), (2, .int x2), (3, .int x3), (4, .int x4), (5, .int x5), (6, .int x6), (7, .int x7)]) [0, 1, 2, 3, 4, 5, 6, 7] rfl ?_
            exact EvI.tr hB rfl
          · have hB := hB.2 c
            refine E_iload 4 dX12_tiesOf_97 rfl ?_
            refine E_if_lt (tgt := 109) dX12_tiesOf_99 (by decide) (fun c => ?_) (fun c => ?_)
            · have hB := hB.1 c
              refine E_sub (lv' := [(0, .ref 66), (1, .int x1), (2, .int x2), (3, .int x3), (6, .int x6), (7, .int x7), (8, .int (sI G 86 (Int32.toNatClampNeg ((30 * x6) + x7))))]) [0, 1, 2, 3, 6, 7, 8] rfl ?_
              exact EvI.tr hB rfl
            · have hB := hB.2 c
              refine E_iload 8 dX12_tiesOf_102 rfl ?_
              refine E_iload 4 dX12_tiesOf_104 rfl ?_
              refine E_icmp_ge (tgt := 119) dX12_tiesOf_106 (by decide) (fun c => ?_) (fun c => ?_)
              · have hB := hB.1 c
                refine E_sub (lv' := [(0, .ref 66), (1, .int x1), (2, .int x2), (3, .int x3), (4, .int x4), (5, .int x5), (6, .int x6), (7, .int x7)]) [0, 1, 2, 3, 4, 5, 6, 7] rfl ?_
                exact EvI.tr hB rfl
              · have hB := hB.2 c
                refine E_sub (lv' := [(0, .ref 66), (1, .int x1), (2, .int x2), (3, .int x3), (6, .int x6), (7, .int x7), (8, .int (sI G 86 (Int32.toNatClampNeg ((30 * x6) + x7))))]) [0, 1, 2, 3, 6, 7, 8] rfl ?_
                exact EvI.tr hB rfl

set_option maxRecDepth 20000 in
set_option maxHeartbeats 2000000 in
theorem kX12_tiesOf_109 {K : KT} {G : St} {Q : Int32 → St → Prop} {x1 : Int32} {x2 : Int32} {x3 : Int32} {x6 : Int32} {x7 : Int32} {x8 : Int32} (hL : Lay G.2.2) 
    (hB : EvI K mX12_tiesOf 0 119 [(0, .ref 66), (1, .int x1), (2, .int x2), (3, .int x3), (4, .int x8), (5, .int (1 <<< (x7 &&& 31))), (6, .int x6), (7, .int x7)] [] G Q) :
    EvI K mX12_tiesOf 0 109 [(0, .ref 66), (1, .int x1), (2, .int x2), (3, .int x3), (6, .int x6), (7, .int x7), (8, .int x8)] [] G Q := by
  refine E_iload 6 dX12_tiesOf_109 rfl ?_
  refine E_istore (lv' := [(0, .ref 66), (1, .int x1), (2, .int x2), (3, .int x3), (4, .int x8), (6, .int x6), (7, .int x7), (8, .int x8)]) dX12_tiesOf_111 (by decide) rfl ?_
  refine E_iconst (v := 1) dX12_tiesOf_113 (by decide) ?_
  refine E_iload 6 dX12_tiesOf_114 rfl ?_
  refine E_ishl dX12_tiesOf_116 ?_
  refine E_istore (lv' := [(0, .ref 66), (1, .int x1), (2, .int x2), (3, .int x3), (4, .int x8), (5, .int (1 <<< (x7 &&& 31))), (6, .int x6), (7, .int x7), (8, .int x8)]) dX12_tiesOf_117 (by decide) rfl ?_
  refine E_sub (lv' := [(0, .ref 66), (1, .int x1), (2, .int x2), (3, .int x3), (4, .int x8), (5, .int (1 <<< (x7 &&& 31))), (6, .int x6), (7, .int x7)]) [0, 1, 2, 3, 4, 5, 6, 7] rfl ?_
  exact EvI.tr hB rfl

set_option maxRecDepth 20000 in
set_option maxHeartbeats 2000000 in
theorem kX12_tiesOf_119 {K : KT} {G : St} {Q : Int32 → St → Prop} {x1 : Int32} {x2 : Int32} {x3 : Int32} {x4 : Int32} {x5 : Int32} {x6 : Int32} {x7 : Int32} (hL : Lay G.2.2) 
    (hB : EvI K mX12_tiesOf 0 33 [(0, .ref 66), (1, .int x1), (2, .int x2), (3, .int x3), (4, .int x4), (5, .int x5), (6, .int x6), (7, .int (x7 + 1))] [] G Q) :
    EvI K mX12_tiesOf 0 119 [(0, .ref 66), (1, .int x1), (2, .int x2), (3, .int x3), (4, .int x4), (5, .int x5), (6, .int x6), (7, .int x7)] [] G Q := by
  refine E_iinc (v := x7 + 1) (lv' := [(0, .ref 66), (1, .int x1), (2, .int x2), (3, .int x3), (4, .int x4), (5, .int x5), (6, .int x6), (7, .int (x7 + 1))]) 7 dX12_tiesOf_119 rfl rfl (by decide) rfl ?_
  refine E_goto (tgt := 33) dX12_tiesOf_122 (by decide) ?_
  exact EvI.tr hB rfl

set_option maxRecDepth 20000 in
set_option maxHeartbeats 2000000 in
theorem kX12_tiesOf_125 {K : KT} {G : St} {Q : Int32 → St → Prop} {x1 : Int32} {x2 : Int32} {x3 : Int32} {x4 : Int32} {x5 : Int32} {x6 : Int32} (hL : Lay G.2.2) 
    (hB : EvI K mX12_tiesOf 0 21 [(0, .ref 66), (1, .int x1), (2, .int x2), (3, .int x3), (4, .int x4), (5, .int x5), (6, .int (x6 + 1))] [] G Q) :
    EvI K mX12_tiesOf 0 125 [(0, .ref 66), (1, .int x1), (2, .int x2), (3, .int x3), (4, .int x4), (5, .int x5), (6, .int x6)] [] G Q := by
  refine E_iinc (v := x6 + 1) (lv' := [(0, .ref 66), (1, .int x1), (2, .int x2), (3, .int x3), (4, .int x4), (5, .int x5), (6, .int (x6 + 1))]) 6 dX12_tiesOf_125 rfl rfl (by decide) rfl ?_
  refine E_goto (tgt := 21) dX12_tiesOf_128 (by decide) ?_
  exact EvI.tr hB rfl

set_option maxRecDepth 20000 in
set_option maxHeartbeats 2000000 in
theorem kX12_holderIn_0 {K : KT} {G : St} {Q : Int32 → St → Prop} {x1 : Int32} {x2 : Int32} (hL : Lay G.2.2) 
    (hB : EvI K mX12_holderIn 0 5 [(0, .ref 66), (1, .int x1), (2, .int x2), (3, .int (-1)), (4, .int 0)] [] G Q) :
    EvI K mX12_holderIn 0 0 [(0, .ref 66), (1, .int x1), (2, .int x2)] [] G Q := by
  refine E_iconst (v := (-1)) dX12_holderIn_0 (by decide) ?_
  refine E_istore_n (lv' := [(0, .ref 66), (1, .int x1), (2, .int x2), (3, .int (-1))]) dX12_holderIn_1 rfl (by decide) rfl ?_
  refine E_iconst (v := 0) dX12_holderIn_2 (by decide) ?_
  refine E_istore (lv' := [(0, .ref 66), (1, .int x1), (2, .int x2), (3, .int (-1)), (4, .int 0)]) dX12_holderIn_3 (by decide) rfl ?_
  exact EvI.tr hB rfl

set_option maxRecDepth 20000 in
set_option maxHeartbeats 2000000 in
theorem kX12_holderIn_5 {K : KT} {G : St} {Q : Int32 → St → Prop} {x1 : Int32} {x2 : Int32} {x3 : Int32} {x4 : Int32} (hL : Lay G.2.2) 
    (hB : (((sI G 66 16) ≤ x4 → Q x3 G) ∧ (¬ (sI G 66 16) ≤ x4 → ((¬ ((x1 >>> (x4 &&& 31)) &&& 1) = 1 → EvI K mX12_holderIn 0 39 [(0, .ref 66), (1, .int x1), (2, .int x2), (3, .int x3), (4, .int x4)] [.int (-1)] G Q) ∧ (((x1 >>> (x4 &&& 31)) &&& 1) = 1 → vp_in ((4 * x4) + x2) 120 ∧ EvI K mX12_holderIn 0 39 [(0, .ref 66), (1, .int x1), (2, .int x2), (3, .int x3), (4, .int x4)] [.int (sI G 89 (Int32.toNatClampNeg ((4 * x4) + x2)))] G Q))))) :
    EvI K mX12_holderIn 0 5 [(0, .ref 66), (1, .int x1), (2, .int x2), (3, .int x3), (4, .int x4)] [] G Q := by
  refine E_iload 4 dX12_holderIn_5 rfl ?_
  refine E_aload_n 0 dX12_holderIn_7 rfl rfl rfl ?_
  refine E_gI (v := sI G 66 16) fG_X12_223 rfl (lo_66 hL) rfl dX12_holderIn_8 ?_
  refine E_icmp_ge (tgt := 78) dX12_holderIn_11 (by decide) (fun c => ?_) (fun c => ?_)
  · have hB := hB.1 c
    refine E_iload_n 3 dX12_holderIn_78 rfl rfl ?_
    exact E_iret rfl dX12_holderIn_79 ⟨_, rfl, rfl, hB⟩
  · have hB := hB.2 c
    refine E_iload_n 1 dX12_holderIn_14 rfl rfl ?_
    refine E_iload 4 dX12_holderIn_15 rfl ?_
    refine E_ishr dX12_holderIn_17 ?_
    refine E_iconst (v := 1) dX12_holderIn_18 (by decide) ?_
    refine E_iand dX12_holderIn_19 ?_
    refine E_iconst (v := 1) dX12_holderIn_20 (by decide) ?_
    refine E_icmp_ne (tgt := 38) dX12_holderIn_21 (by decide) (fun c => ?_) (fun c => ?_)
    · have hB := hB.1 c
      refine E_iconst (v := (-1)) dX12_holderIn_38 (by decide) ?_
      exact EvI.tr hB rfl
    · have hB := hB.2 c
      refine E_aload_n 0 dX12_holderIn_24 rfl rfl rfl ?_
      refine E_gR (j := 89) fG_X12_105 rfl (lo_66 hL) (lr_66_36 hL) (by decide) dX12_holderIn_25 ?_
      refine E_iconst (v := 4) dX12_holderIn_28 (by decide) ?_
      refine E_iload 4 dX12_holderIn_29 rfl ?_
      refine E_imul dX12_holderIn_31 ?_
      refine E_iload_n 2 dX12_holderIn_32 rfl rfl ?_
      refine E_iadd dX12_holderIn_33 ?_
      obtain ⟨qq1, hB⟩ := hB
      refine E_aI (p := Int32.toNatClampNeg ((4 * x4) + x2)) (v := sI G 89 (Int32.toNatClampNeg ((4 * x4) + x2))) (la_89 hL) qq1 rfl rfl dX12_holderIn_34 ?_
      refine E_goto (tgt := 39) dX12_holderIn_35 (by decide) ?_
      exact EvI.tr hB rfl

set_option maxRecDepth 20000 in
set_option maxHeartbeats 2000000 in
theorem kX12_holderIn_39 {K : KT} {G : St} {Q : Int32 → St → Prop} {x1 : Int32} {x2 : Int32} {x3 : Int32} {x4 : Int32} {xs0 : Int32} (hL : Lay G.2.2) 
    (hB : ((xs0 < 0 → EvI K mX12_holderIn 0 70 [(0, .ref 66), (1, .int x1), (2, .int x2), (3, .int x3), (4, .int x4)] [] G Q) ∧ (¬ xs0 < 0 → ((x3 < 0 → EvI K mX12_holderIn 0 71 [(0, .ref 66), (1, .int x1), (2, .int x2), (4, .int x4)] [.int x4] G Q) ∧ (¬ x3 < 0 → vp_in ((4 * x3) + x2) 120 ∧ (((sI G 89 (Int32.toNatClampNeg ((4 * x3) + x2))) ≤ xs0 → EvI K mX12_holderIn 0 70 [(0, .ref 66), (1, .int x1), (2, .int x2), (3, .int x3), (4, .int x4)] [] G Q) ∧ (¬ (sI G 89 (Int32.toNatClampNeg ((4 * x3) + x2))) ≤ xs0 → EvI K mX12_holderIn 0 71 [(0, .ref 66), (1, .int x1), (2, .int x2), (4, .int x4)] [.int x4] G Q))))))) :
    EvI K mX12_holderIn 0 39 [(0, .ref 66), (1, .int x1), (2, .int x2), (3, .int x3), (4, .int x4)] [.int xs0] G Q := by
  refine E_istore (lv' := [(0, .ref 66), (1, .int x1), (2, .int x2), (3, .int x3), (4, .int x4), (5, .int xs0)]) dX12_holderIn_39 (by decide) rfl ?_
  refine E_iload 5 dX12_holderIn_41 rfl ?_
  refine E_if_lt (tgt := 70) dX12_holderIn_43 (by decide) (fun c => ?_) (fun c => ?_)
  · have hB := hB.1 c
    refine E_sub (lv' := [(0, .ref 66), (1, .int x1), (2, .int x2), (3, .int x3), (4, .int x4)]) [0, 1, 2, 3, 4] rfl ?_
    exact EvI.tr hB rfl
  · have hB := hB.2 c
    refine E_iload_n 3 dX12_holderIn_46 rfl rfl ?_
    refine E_if_lt (tgt := 65) dX12_holderIn_47 (by decide) (fun c => ?_) (fun c => ?_)
    · have hB := hB.1 c
      refine E_iload 4 dX12_holderIn_65 rfl ?_
      refine E_goto (tgt := 71) dX12_holderIn_67 (by decide) ?_
      refine E_sub (lv' := [(0, .ref 66), (1, .int x1), (2, .int x2), (4, .int x4)]) [0, 1, 2, 4] rfl ?_
      exact EvI.tr hB rfl
    · have hB := hB.2 c
      refine E_iload 5 dX12_holderIn_50 rfl ?_
      refine E_aload_n 0 dX12_holderIn_52 rfl rfl rfl ?_
      refine E_gR (j := 89) fG_X12_105 rfl (lo_66 hL) (lr_66_36 hL) (by decide) dX12_holderIn_53 ?_
      refine E_iconst (v := 4) dX12_holderIn_56 (by decide) ?_
      refine E_iload_n 3 dX12_holderIn_57 rfl rfl ?_
      refine E_imul dX12_holderIn_58 ?_
      refine E_iload_n 2 dX12_holderIn_59 rfl rfl ?_
      refine E_iadd dX12_holderIn_60 ?_
      obtain ⟨qq1, hB⟩ := hB
      refine E_aI (p := Int32.toNatClampNeg ((4 * x3) + x2)) (v := sI G 89 (Int32.toNatClampNeg ((4 * x3) + x2))) (la_89 hL) qq1 rfl rfl dX12_holderIn_61 ?_
      refine E_icmp_ge (tgt := 70) dX12_holderIn_62 (by decide) (fun c => ?_) (fun c => ?_)
      · have hB := hB.1 c
        refine E_sub (lv' := [(0, .ref 66), (1, .int x1), (2, .int x2), (3, .int x3), (4, .int x4)]) [0, 1, 2, 3, 4] rfl ?_
        exact EvI.tr hB rfl
      · have hB := hB.2 c
        refine E_iload 4 dX12_holderIn_65 rfl ?_
        refine E_goto (tgt := 71) dX12_holderIn_67 (by decide) ?_
        refine E_sub (lv' := [(0, .ref 66), (1, .int x1), (2, .int x2), (4, .int x4)]) [0, 1, 2, 4] rfl ?_
        exact EvI.tr hB rfl

set_option maxRecDepth 20000 in
set_option maxHeartbeats 2000000 in
theorem kX12_holderIn_70 {K : KT} {G : St} {Q : Int32 → St → Prop} {x1 : Int32} {x2 : Int32} {x3 : Int32} {x4 : Int32} (hL : Lay G.2.2) 
    (hB : EvI K mX12_holderIn 0 71 [(0, .ref 66), (1, .int x1), (2, .int x2), (4, .int x4)] [.int x3] G Q) :
    EvI K mX12_holderIn 0 70 [(0, .ref 66), (1, .int x1), (2, .int x2), (3, .int x3), (4, .int x4)] [] G Q := by
  refine E_iload_n 3 dX12_holderIn_70 rfl rfl ?_
  refine E_sub (lv' := [(0, .ref 66), (1, .int x1), (2, .int x2), (4, .int x4)]) [0, 1, 2, 4] rfl ?_
  exact EvI.tr hB rfl

set_option maxRecDepth 20000 in
set_option maxHeartbeats 2000000 in
theorem kX12_holderIn_71 {K : KT} {G : St} {Q : Int32 → St → Prop} {x1 : Int32} {x2 : Int32} {x4 : Int32} {xs0 : Int32} (hL : Lay G.2.2) 
    (hB : EvI K mX12_holderIn 0 5 [(0, .ref 66), (1, .int x1), (2, .int x2), (3, .int xs0), (4, .int (x4 + 1))] [] G Q) :
    EvI K mX12_holderIn 0 71 [(0, .ref 66), (1, .int x1), (2, .int x2), (4, .int x4)] [.int xs0] G Q := by
  refine E_istore_n (lv' := [(0, .ref 66), (1, .int x1), (2, .int x2), (3, .int xs0), (4, .int x4)]) dX12_holderIn_71 rfl (by decide) rfl ?_
  refine E_iinc (v := x4 + 1) (lv' := [(0, .ref 66), (1, .int x1), (2, .int x2), (3, .int xs0), (4, .int (x4 + 1))]) 4 dX12_holderIn_72 rfl rfl (by decide) rfl ?_
  refine E_goto (tgt := 5) dX12_holderIn_75 (by decide) ?_
  exact EvI.tr hB rfl

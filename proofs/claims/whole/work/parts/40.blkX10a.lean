set_option maxRecDepth 20000 in
set_option maxHeartbeats 2000000 in
theorem kX10_isOtherForm_0 {K : KT} {G : St} {Q : Int32 → St → Prop} {y0 : Int64} {y2 : Int64} (hL : Lay G.2.2) 
    (hB : ((y0 = ((y2 * 27) + 19) → Q 1 G) ∧ (¬ y0 = ((y2 * 27) + 19) → ((¬ y2 = ((y0 * 27) + 19) → Q 0 G) ∧ (y2 = ((y0 * 27) + 19) → Q 1 G))))) :
    EvI K mX10_isOtherForm 0 0 [(0, .long y0), (2, .long y2)] [] G Q := by
  refine E_lload_n 0 dX10_isOtherForm_0 rfl rfl ?_
  refine E_lload_n 1 dX10_isOtherForm_1 rfl rfl ?_
  refine E_ldc2 (v := 27) tm_711 dX10_isOtherForm_2 ?_
  refine E_lmul dX10_isOtherForm_5 ?_
  refine E_ldc2 (v := 19) tm_712 dX10_isOtherForm_6 ?_
  refine E_ladd dX10_isOtherForm_9 ?_
  refine E_lcmp dX10_isOtherForm_10 ?_
  refine E_if_eq (tgt := 28) dX10_isOtherForm_11 (by decide) (fun c => ?_) (fun c => ?_)
  · have hB := hB.1 ((lgc_eq y0 ((y2 * 27) + 19)).mp c)
    refine E_iconst (v := 1) dX10_isOtherForm_28 (by decide) ?_
    refine E_goto (tgt := 33) dX10_isOtherForm_29 (by decide) ?_
    exact E_zret rfl (Or.inr rfl) dX10_isOtherForm_33 ⟨_, rfl, rfl, hB⟩
  · have hB := hB.2 (fun q => c ((lgc_eq y0 ((y2 * 27) + 19)).mpr q))
    refine E_lload_n 1 dX10_isOtherForm_14 rfl rfl ?_
    refine E_lload_n 0 dX10_isOtherForm_15 rfl rfl ?_
    refine E_ldc2 (v := 27) tm_711 dX10_isOtherForm_16 ?_
    refine E_lmul dX10_isOtherForm_19 ?_
    refine E_ldc2 (v := 19) tm_712 dX10_isOtherForm_20 ?_
    refine E_ladd dX10_isOtherForm_23 ?_
    refine E_lcmp dX10_isOtherForm_24 ?_
    refine E_if_ne (tgt := 32) dX10_isOtherForm_25 (by decide) (fun c => ?_) (fun c => ?_)
    · have hB := hB.1 ((fun q => c ((lgc_eq y2 ((y0 * 27) + 19)).mpr q)))
      refine E_iconst (v := 0) dX10_isOtherForm_32 (by decide) ?_
      exact E_zret rfl (Or.inl rfl) dX10_isOtherForm_33 ⟨_, rfl, rfl, hB⟩
    · have hB := hB.2 ((lgc_eq y2 ((y0 * 27) + 19)).mp c)
      refine E_iconst (v := 1) dX10_isOtherForm_28 (by decide) ?_
      refine E_goto (tgt := 33) dX10_isOtherForm_29 (by decide) ?_
      exact E_zret rfl (Or.inr rfl) dX10_isOtherForm_33 ⟨_, rfl, rfl, hB⟩

set_option maxRecDepth 20000 in
set_option maxHeartbeats 2000000 in
theorem kX10_lengthOf_0 {K : KT} {G : St} {Q : Int32 → St → Prop} {y0 : Int64} (hL : Lay G.2.2) 
    (hB : EvI K mX10_lengthOf 0 2 [(0, .long y0), (2, .int 0)] [] G Q) :
    EvI K mX10_lengthOf 0 0 [(0, .long y0)] [] G Q := by
  refine E_iconst (v := 0) dX10_lengthOf_0 (by decide) ?_
  refine E_istore_n (lv' := [(0, .long y0), (2, .int 0)]) dX10_lengthOf_1 rfl (by decide) rfl ?_
  exact EvI.tr hB rfl

set_option maxRecDepth 20000 in
set_option maxHeartbeats 2000000 in
theorem kX10_lengthOf_2 {K : KT} {G : St} {Q : Int32 → St → Prop} {y0 : Int64} {x2 : Int32} (hL : Lay G.2.2) 
    (hB : ((8 ≤ x2 → Q x2 G) ∧ (¬ 8 ≤ x2 → vp_in x2 9 ∧ ((y0 < (pw (Int32.toNatClampNeg x2)) → Q x2 G) ∧ (¬ y0 < (pw (Int32.toNatClampNeg x2)) → EvI K mX10_lengthOf 0 2 [(0, .long y0), (2, .int (x2 + 1))] [] G Q))))) :
    EvI K mX10_lengthOf 0 2 [(0, .long y0), (2, .int x2)] [] G Q := by
  refine E_iload_n 1 dX10_lengthOf_2 rfl rfl ?_
  refine E_bipush (v := 8) dX10_lengthOf_3 (by decide) ?_
  refine E_icmp_ge (tgt := 24) dX10_lengthOf_5 (by decide) (fun c => ?_) (fun c => ?_)
  · have hB := hB.1 c
    refine E_iload_n 1 dX10_lengthOf_24 rfl rfl ?_
    exact E_iret rfl dX10_lengthOf_25 ⟨_, rfl, rfl, hB⟩
  · have hB := hB.2 c
    refine E_lload_n 0 dX10_lengthOf_8 rfl rfl ?_
    refine E_getPow tm_722 dX10_lengthOf_9 ?_
    refine E_iload_n 1 dX10_lengthOf_12 rfl rfl ?_
    obtain ⟨qq1, hB⟩ := hB
    refine E_ldPow qq1 dX10_lengthOf_13 ?_
    refine E_lcmp dX10_lengthOf_14 ?_
    refine E_if_lt (tgt := 24) dX10_lengthOf_15 (by decide) (fun c => ?_) (fun c => ?_)
    · have hB := hB.1 ((lgc_lt y0 (pw (Int32.toNatClampNeg x2))).mp c)
      refine E_iload_n 1 dX10_lengthOf_24 rfl rfl ?_
      exact E_iret rfl dX10_lengthOf_25 ⟨_, rfl, rfl, hB⟩
    · have hB := hB.2 (fun q => c ((lgc_lt y0 (pw (Int32.toNatClampNeg x2))).mpr q))
      refine E_iinc (v := x2 + 1) (lv' := [(0, .long y0), (2, .int (x2 + 1))]) 1 dX10_lengthOf_18 rfl rfl (by decide) rfl ?_
      refine E_goto (tgt := 2) dX10_lengthOf_21 (by decide) ?_
      exact EvI.tr hB rfl

set_option maxRecDepth 20000 in
set_option maxHeartbeats 2000000 in
theorem kX10_without_0 {K : KT} {G : St} {Q : Int64 → St → Prop} {y0 : Int64} {x2 : Int32} (hL : Lay G.2.2) 
    (hB : ((x2 < 0 → Q y0 G) ∧ (¬ x2 < 0 → ((x2 < 8 → vp_in (x2 + 1) 9 ∧ (¬ (pw (Int32.toNatClampNeg (x2 + 1))) = 0) ∧ vp_in x2 9 ∧ vp_in x2 9 ∧ (¬ (pw (Int32.toNatClampNeg x2)) = 0) ∧ ∀ v6 : Int64, v6 = ((y0 / (pw (Int32.toNatClampNeg (x2 + 1)))) * (pw (Int32.toNatClampNeg x2))) + (y0 - y0 / (pw (Int32.toNatClampNeg x2)) * (pw (Int32.toNatClampNeg x2))) → Q v6 G) ∧ (¬ x2 < 8 → Q y0 G))))) :
    EvL K mX10_without 0 0 [(0, .long y0), (2, .int x2)] [] G Q := by
  refine E_iload_n 1 dX10_without_0 rfl rfl ?_
  refine E_if_lt (tgt := 10) dX10_without_1 (by decide) (fun c => ?_) (fun c => ?_)
  · have hB := hB.1 c
    refine E_lload_n 0 dX10_without_10 rfl rfl ?_
    exact E_lret rfl dX10_without_11 ⟨_, rfl, rfl, hB⟩
  · have hB := hB.2 c
    refine E_iload_n 1 dX10_without_4 rfl rfl ?_
    refine E_bipush (v := 8) dX10_without_5 (by decide) ?_
    refine E_icmp_lt (tgt := 12) dX10_without_7 (by decide) (fun c => ?_) (fun c => ?_)
    · have hB := hB.1 c
      refine E_lload_n 0 dX10_without_12 rfl rfl ?_
      refine E_getPow tm_722 dX10_without_13 ?_
      refine E_iload_n 1 dX10_without_16 rfl rfl ?_
      refine E_iconst (v := 1) dX10_without_17 (by decide) ?_
      refine E_iadd dX10_without_18 ?_
      obtain ⟨qq1, hB⟩ := hB
      refine E_ldPow qq1 dX10_without_19 ?_
      obtain ⟨qq2, hB⟩ := hB
      refine E_ldiv dX10_without_20 qq2 ?_
      refine E_getPow tm_722 dX10_without_21 ?_
      refine E_iload_n 1 dX10_without_24 rfl rfl ?_
      obtain ⟨qq3, hB⟩ := hB
      refine E_ldPow qq3 dX10_without_25 ?_
      refine E_lmul dX10_without_26 ?_
      refine E_lload_n 0 dX10_without_27 rfl rfl ?_
      refine E_getPow tm_722 dX10_without_28 ?_
      refine E_iload_n 1 dX10_without_31 rfl rfl ?_
      obtain ⟨qq4, hB⟩ := hB
      refine E_ldPow qq4 dX10_without_32 ?_
      obtain ⟨qq5, hB⟩ := hB
      refine E_lrem dX10_without_33 qq5 ?_
      refine E_ladd dX10_without_34 ?_
      refine E_topl (fun v6 ev6 => ?_)
      have hB := hB v6 ev6
      exact E_lret rfl dX10_without_35 ⟨_, rfl, rfl, hB⟩
    · have hB := hB.2 c
      refine E_lload_n 0 dX10_without_10 rfl rfl ?_
      exact E_lret rfl dX10_without_11 ⟨_, rfl, rfl, hB⟩

set_option maxRecDepth 20000 in
set_option maxHeartbeats 2000000 in
theorem kX10_isOneLetterApart_0 {K : KT} {G : St} {Q : Int32 → St → Prop} {y0 : Int64} {y2 : Int64} (hL : Lay G.2.2) 
    (hB : EvI K mX10_lengthOf 0 0 [(0, .long y0)] [] G (fun r1 G1 => EvI K mX10_lengthOf 0 0 [(0, .long y2)] [] G1 (fun r2 G2 => ((y0 = y2 → Q 0 G2) ∧ (¬ y0 = y2 → EvI K mJ9_abs_0f7a4 0 0 [(0, .int (r1 - r2))] [] G2 (fun r3 G3 => ((r3 ≤ 1 → EvI K mJ9_max_7cf53 0 0 [(0, .int r1), (1, .int r2)] [] G3 (fun r4 G4 => EvI K mX10_isOneLetterApart 1 44 [(0, .long y0), (2, .long y2), (4, .int r1), (5, .int r2), (6, .int r4), (7, .int 0)] [] G4 Q)) ∧ (¬ r3 ≤ 1 → Q 0 G3)))))))) :
    EvI K mX10_isOneLetterApart 1 0 [(0, .long y0), (2, .long y2)] [] G Q := by
  refine E_lload_n 0 dX10_isOneLetterApart_0 rfl rfl ?_
  refine E_callS (as := [.long y0]) (st := []) cm_X10_lengthOf cS_X10_29 rfl rfl (by decide) (Nat.le_of_ble_eq_true rfl) (Nat.le_of_ble_eq_true rfl) dX10_isOneLetterApart_1 hB (fun r G1 hr => ?_)
  obtain ⟨r1, rfl, hE1, hB⟩ := hr
  have hL1 : Lay G1.2.2 := by rw [hE1]; exact hL
  have hE1 : G1.2.2 = G.2.2 := hE1
  show Ev K mX10_isOneLetterApart 1 4 [(0, .long y0), (2, .long y2)] [.int r1] G1 _
  refine E_istore (lv' := [(0, .long y0), (2, .long y2), (4, .int r1)]) dX10_isOneLetterApart_4 (by decide) rfl ?_
  refine E_lload_n 1 dX10_isOneLetterApart_6 rfl rfl ?_
  refine E_callS (as := [.long y2]) (st := []) cm_X10_lengthOf cS_X10_29 rfl rfl (by decide) (Nat.le_of_ble_eq_true rfl) (Nat.le_of_ble_eq_true rfl) dX10_isOneLetterApart_7 hB (fun r G2 hr => ?_)
  obtain ⟨r2, rfl, hE2, hB⟩ := hr
  have hL2 : Lay G2.2.2 := by rw [hE2]; exact hL1
  have hE2 : G2.2.2 = G.2.2 := hE2.trans hE1
  show Ev K mX10_isOneLetterApart 1 10 [(0, .long y0), (2, .long y2), (4, .int r1)] [.int r2] G2 _
  refine E_istore (lv' := [(0, .long y0), (2, .long y2), (4, .int r1), (5, .int r2)]) dX10_isOneLetterApart_10 (by decide) rfl ?_
  refine E_lload_n 0 dX10_isOneLetterApart_12 rfl rfl ?_
  refine E_lload_n 1 dX10_isOneLetterApart_13 rfl rfl ?_
  refine E_lcmp dX10_isOneLetterApart_14 ?_
  refine E_if_eq (tgt := 30) dX10_isOneLetterApart_15 (by decide) (fun c => ?_) (fun c => ?_)
  · have hB := hB.1 ((lgc_eq y0 y2).mp c)
    refine E_iconst (v := 0) dX10_isOneLetterApart_30 (by decide) ?_
    exact E_zret rfl (Or.inl rfl) dX10_isOneLetterApart_31 ⟨_, rfl, hE2, hB⟩
  · have hB := hB.2 (fun q => c ((lgc_eq y0 y2).mpr q))
    refine E_iload 2 dX10_isOneLetterApart_18 rfl ?_
    refine E_iload 3 dX10_isOneLetterApart_20 rfl ?_
    refine E_isub dX10_isOneLetterApart_22 ?_
    refine E_callS (as := [.int (r1 - r2)]) (st := []) cm_J9_abs_0f7a4 cS_X10_37 rfl rfl (by decide) (Nat.le_of_ble_eq_true rfl) (Nat.le_of_ble_eq_true rfl) dX10_isOneLetterApart_23 hB (fun r G3 hr => ?_)
    obtain ⟨r3, rfl, hE3, hB⟩ := hr
    have hL3 : Lay G3.2.2 := by rw [hE3]; exact hL2
    have hE3 : G3.2.2 = G.2.2 := hE3.trans hE2
    show Ev K mX10_isOneLetterApart 1 26 [(0, .long y0), (2, .long y2), (4, .int r1), (5, .int r2)] [.int r3] G3 _
    refine E_iconst (v := 1) dX10_isOneLetterApart_26 (by decide) ?_
    refine E_icmp_le (tgt := 32) dX10_isOneLetterApart_27 (by decide) (fun c => ?_) (fun c => ?_)
    · have hB := hB.1 c
      refine E_iload 2 dX10_isOneLetterApart_32 rfl ?_
      refine E_iload 3 dX10_isOneLetterApart_34 rfl ?_
      refine E_callS (as := [.int r1, .int r2]) (st := []) cm_J9_max_7cf53 cS_X10_43 rfl rfl (by decide) (Nat.le_of_ble_eq_true rfl) (Nat.le_of_ble_eq_true rfl) dX10_isOneLetterApart_36 hB (fun r G4 hr => ?_)
      obtain ⟨r4, rfl, hE4, hB⟩ := hr
      have hL4 : Lay G4.2.2 := by rw [hE4]; exact hL3
      have hE4 : G4.2.2 = G.2.2 := hE4.trans hE3
      show Ev K mX10_isOneLetterApart 1 39 [(0, .long y0), (2, .long y2), (4, .int r1), (5, .int r2)] [.int r4] G4 _
      refine E_istore (lv' := [(0, .long y0), (2, .long y2), (4, .int r1), (5, .int r2), (6, .int r4)]) dX10_isOneLetterApart_39 (by decide) rfl ?_
      refine E_iconst (v := 0) dX10_isOneLetterApart_41 (by decide) ?_
      refine E_istore (lv' := [(0, .long y0), (2, .long y2), (4, .int r1), (5, .int r2), (6, .int r4), (7, .int 0)]) dX10_isOneLetterApart_42 (by decide) rfl ?_
      exact EvI.tr hB hE4
    · have hB := hB.2 c
      refine E_iconst (v := 0) dX10_isOneLetterApart_30 (by decide) ?_
      exact E_zret rfl (Or.inl rfl) dX10_isOneLetterApart_31 ⟨_, rfl, hE3, hB⟩

set_option maxRecDepth 20000 in
set_option maxHeartbeats 2000000 in
theorem kX10_isOneLetterApart_44 {K : KT} {G : St} {Q : Int32 → St → Prop} {y0 : Int64} {y2 : Int64} {x4 : Int32} {x5 : Int32} {x6 : Int32} {x7 : Int32} (hL : Lay G.2.2) 
    (hB : ((x6 ≤ x7 → Q 0 G) ∧ (¬ x6 ≤ x7 → ((¬ x4 = x6 → EvI K mX10_isOneLetterApart 1 68 [(0, .long y0), (2, .long y2), (4, .int x4), (5, .int x5), (6, .int x6), (7, .int x7)] [.long y0] G Q) ∧ (x4 = x6 → EvL K mX10_without 0 0 [(0, .long y0), (2, .int x7)] [] G (fun r1 G1 => EvI K mX10_isOneLetterApart 1 68 [(0, .long y0), (2, .long y2), (4, .int x4), (5, .int x5), (6, .int x6), (7, .int x7)] [.long r1] G1 Q)))))) :
    EvI K mX10_isOneLetterApart 1 44 [(0, .long y0), (2, .long y2), (4, .int x4), (5, .int x5), (6, .int x6), (7, .int x7)] [] G Q := by
  refine E_iload 5 dX10_isOneLetterApart_44 rfl ?_
  refine E_iload 4 dX10_isOneLetterApart_46 rfl ?_
  refine E_icmp_ge (tgt := 105) dX10_isOneLetterApart_48 (by decide) (fun c => ?_) (fun c => ?_)
  · have hB := hB.1 c
    refine E_iconst (v := 0) dX10_isOneLetterApart_105 (by decide) ?_
    exact E_zret rfl (Or.inl rfl) dX10_isOneLetterApart_106 ⟨_, rfl, rfl, hB⟩
  · have hB := hB.2 c
    refine E_iload 2 dX10_isOneLetterApart_51 rfl ?_
    refine E_iload 4 dX10_isOneLetterApart_53 rfl ?_
    refine E_icmp_ne (tgt := 67) dX10_isOneLetterApart_55 (by decide) (fun c => ?_) (fun c => ?_)
    · have hB := hB.1 c
      refine E_lload_n 0 dX10_isOneLetterApart_67 rfl rfl ?_
      exact EvI.tr hB rfl
    · have hB := hB.2 c
      refine E_lload_n 0 dX10_isOneLetterApart_58 rfl rfl ?_
      refine E_iload 5 dX10_isOneLetterApart_59 rfl ?_
      refine E_callS (as := [.long y0, .int x7]) (st := []) cm_X10_without cS_X10_47 rfl rfl (by decide) (Nat.le_of_ble_eq_true rfl) (Nat.le_of_ble_eq_true rfl) dX10_isOneLetterApart_61 hB (fun r G1 hr => ?_)
      obtain ⟨r1, rfl, hE1, hB⟩ := hr
      have hL1 : Lay G1.2.2 := by rw [hE1]; exact hL
      have hE1 : G1.2.2 = G.2.2 := hE1
      show Ev K mX10_isOneLetterApart 1 64 [(0, .long y0), (2, .long y2), (4, .int x4), (5, .int x5), (6, .int x6), (7, .int x7)] [.long r1] G1 _
      refine E_goto (tgt := 68) dX10_isOneLetterApart_64 (by decide) ?_
      exact EvI.tr hB hE1

set_option maxRecDepth 20000 in
set_option maxHeartbeats 2000000 in
theorem kX10_isOneLetterApart_68 {K : KT} {G : St} {Q : Int32 → St → Prop} {y0 : Int64} {y2 : Int64} {x4 : Int32} {x5 : Int32} {x6 : Int32} {x7 : Int32} {ys0 : Int64} (hL : Lay G.2.2) 
    (hB : ((¬ x5 = x6 → EvI K mX10_isOneLetterApart 1 87 [(0, .long y0), (2, .long y2), (4, .int x4), (5, .int x5), (6, .int x6), (7, .int x7), (8, .long ys0)] [.long y2] G Q) ∧ (x5 = x6 → EvL K mX10_without 0 0 [(0, .long y2), (2, .int x7)] [] G (fun r1 G1 => EvI K mX10_isOneLetterApart 1 87 [(0, .long y0), (2, .long y2), (4, .int x4), (5, .int x5), (6, .int x6), (7, .int x7), (8, .long ys0)] [.long r1] G1 Q)))) :
    EvI K mX10_isOneLetterApart 1 68 [(0, .long y0), (2, .long y2), (4, .int x4), (5, .int x5), (6, .int x6), (7, .int x7)] [.long ys0] G Q := by
  refine E_lstore (lv' := [(0, .long y0), (2, .long y2), (4, .int x4), (5, .int x5), (6, .int x6), (7, .int x7), (8, .long ys0)]) dX10_isOneLetterApart_68 (by decide) rfl ?_
  refine E_iload 3 dX10_isOneLetterApart_70 rfl ?_
  refine E_iload 4 dX10_isOneLetterApart_72 rfl ?_
  refine E_icmp_ne (tgt := 86) dX10_isOneLetterApart_74 (by decide) (fun c => ?_) (fun c => ?_)
  · have hB := hB.1 c
    refine E_lload_n 1 dX10_isOneLetterApart_86 rfl rfl ?_
    exact EvI.tr hB rfl
  · have hB := hB.2 c
    refine E_lload_n 1 dX10_isOneLetterApart_77 rfl rfl ?_
    refine E_iload 5 dX10_isOneLetterApart_78 rfl ?_
    refine E_callS (as := [.long y2, .int x7]) (st := []) cm_X10_without cS_X10_47 rfl rfl (by decide) (Nat.le_of_ble_eq_true rfl) (Nat.le_of_ble_eq_true rfl) dX10_isOneLetterApart_80 hB (fun r G1 hr => ?_)
    obtain ⟨r1, rfl, hE1, hB⟩ := hr
    have hL1 : Lay G1.2.2 := by rw [hE1]; exact hL
    have hE1 : G1.2.2 = G.2.2 := hE1
    show Ev K mX10_isOneLetterApart 1 83 [(0, .long y0), (2, .long y2), (4, .int x4), (5, .int x5), (6, .int x6), (7, .int x7), (8, .long ys0)] [.long r1] G1 _
    refine E_goto (tgt := 87) dX10_isOneLetterApart_83 (by decide) ?_
    exact EvI.tr hB hE1

set_option maxRecDepth 20000 in
set_option maxHeartbeats 2000000 in
theorem kX10_isOneLetterApart_87 {K : KT} {G : St} {Q : Int32 → St → Prop} {y0 : Int64} {y2 : Int64} {x4 : Int32} {x5 : Int32} {x6 : Int32} {x7 : Int32} {y8 : Int64} {ys0 : Int64} (hL : Lay G.2.2) 
    (hB : ((¬ y8 = ys0 → EvI K mX10_isOneLetterApart 1 44 [(0, .long y0), (2, .long y2), (4, .int x4), (5, .int x5), (6, .int x6), (7, .int (x7 + 1))] [] G Q) ∧ (y8 = ys0 → Q 1 G))) :
    EvI K mX10_isOneLetterApart 1 87 [(0, .long y0), (2, .long y2), (4, .int x4), (5, .int x5), (6, .int x6), (7, .int x7), (8, .long y8)] [.long ys0] G Q := by
  refine E_lstore (lv' := [(0, .long y0), (2, .long y2), (4, .int x4), (5, .int x5), (6, .int x6), (7, .int x7), (8, .long y8), (10, .long ys0)]) dX10_isOneLetterApart_87 (by decide) rfl ?_
  refine E_lload 6 dX10_isOneLetterApart_89 rfl ?_
  refine E_lload 7 dX10_isOneLetterApart_91 rfl ?_
  refine E_lcmp dX10_isOneLetterApart_93 ?_
  refine E_if_ne (tgt := 99) dX10_isOneLetterApart_94 (by decide) (fun c => ?_) (fun c => ?_)
  · have hB := hB.1 ((fun q => c ((lgc_eq y8 ys0).mpr q)))
    refine E_iinc (v := x7 + 1) (lv' := [(0, .long y0), (2, .long y2), (4, .int x4), (5, .int x5), (6, .int x6), (7, .int (x7 + 1)), (8, .long y8), (10, .long ys0)]) 5 dX10_isOneLetterApart_99 rfl rfl (by decide) rfl ?_
    refine E_goto (tgt := 44) dX10_isOneLetterApart_102 (by decide) ?_
    refine E_sub (lv' := [(0, .long y0), (2, .long y2), (4, .int x4), (5, .int x5), (6, .int x6), (7, .int (x7 + 1))]) [0, 1, 2, 3, 4, 5] rfl ?_
    exact EvI.tr hB rfl
  · have hB := hB.2 ((lgc_eq y8 ys0).mp c)
    refine E_iconst (v := 1) dX10_isOneLetterApart_97 (by decide) ?_
    exact E_zret rfl (Or.inr rfl) dX10_isOneLetterApart_98 ⟨_, rfl, rfl, hB⟩

set_option maxRecDepth 20000 in
set_option maxHeartbeats 2000000 in
theorem kX10_orderOf_0 {K : KT} {G : St} {Q : Int64 → St → Prop} {y0 : Int64} (hL : Lay G.2.2) 
    (hB : EvI K mX10_lengthOf 0 0 [(0, .long y0)] [] G (fun r1 G1 => vp_in (8 - r1) 9 ∧ Q (y0 * (pw (Int32.toNatClampNeg (8 - r1)))) G1)) :
    EvL K mX10_orderOf 1 0 [(0, .long y0)] [] G Q := by
  refine E_lload_n 0 dX10_orderOf_0 rfl rfl ?_
  refine E_getPow tm_722 dX10_orderOf_1 ?_
  refine E_bipush (v := 8) dX10_orderOf_4 (by decide) ?_
  refine E_lload_n 0 dX10_orderOf_6 rfl rfl ?_
  refine E_callS (as := [.long y0]) (st := [.int 8, .float 0, .long y0]) cm_X10_lengthOf cS_X10_29 rfl rfl (by decide) (Nat.le_of_ble_eq_true rfl) (Nat.le_of_ble_eq_true rfl) dX10_orderOf_7 hB (fun r G1 hr => ?_)
  obtain ⟨r1, rfl, hE1, hB⟩ := hr
  have hL1 : Lay G1.2.2 := by rw [hE1]; exact hL
  have hE1 : G1.2.2 = G.2.2 := hE1
  show Ev K mX10_orderOf 1 10 [(0, .long y0)] [.int r1, .int 8, .float 0, .long y0] G1 _
  refine E_isub dX10_orderOf_10 ?_
  obtain ⟨qq2, hB⟩ := hB
  refine E_ldPow qq2 dX10_orderOf_11 ?_
  refine E_lmul dX10_orderOf_12 ?_
  exact E_lret rfl dX10_orderOf_13 ⟨_, rfl, hE1, hB⟩

set_option maxRecDepth 20000 in
set_option maxHeartbeats 2000000 in
theorem kX10_isReserved_0 {K : KT} {G : St} {Q : Int32 → St → Prop} {y0 : Int64} (hL : Lay G.2.2) 
    (hB : ((y0 = 10650290 → Q 1 G) ∧ (¬ y0 = 10650290 → ((y0 = 397973 → Q 1 G) ∧ (¬ y0 = 397973 → ((y0 = 212302449 → Q 1 G) ∧ (¬ y0 = 212302449 → ((y0 = 286880 → Q 1 G) ∧ (¬ y0 = 286880 → ((y0 = 279252 → Q 1 G) ∧ (¬ y0 = 279252 → ((y0 = 311436 → Q 1 G) ∧ (¬ y0 = 311436 → ((y0 = 11438892 → Q 1 G) ∧ (¬ y0 = 11438892 → ((¬ y0 = 411 → Q 0 G) ∧ (y0 = 411 → Q 1 G))))))))))))))))) :
    EvI K mX10_isReserved 0 0 [(0, .long y0)] [] G Q := by
  refine E_lload_n 0 dX10_isReserved_0 rfl rfl ?_
  refine E_ldc2 (v := 10650290) tm_507 dX10_isReserved_1 ?_
  refine E_lcmp dX10_isReserved_4 ?_
  refine E_if_eq (tgt := 64) dX10_isReserved_5 (by decide) (fun c => ?_) (fun c => ?_)
  · have hB := hB.1 ((lgc_eq y0 10650290).mp c)
    refine E_iconst (v := 1) dX10_isReserved_64 (by decide) ?_
    refine E_goto (tgt := 69) dX10_isReserved_65 (by decide) ?_
    exact E_zret rfl (Or.inr rfl) dX10_isReserved_69 ⟨_, rfl, rfl, hB⟩
  · have hB := hB.2 (fun q => c ((lgc_eq y0 10650290).mpr q))
    refine E_lload_n 0 dX10_isReserved_8 rfl rfl ?_
    refine E_ldc2 (v := 397973) tm_508 dX10_isReserved_9 ?_
    refine E_lcmp dX10_isReserved_12 ?_
    refine E_if_eq (tgt := 64) dX10_isReserved_13 (by decide) (fun c => ?_) (fun c => ?_)
    · have hB := hB.1 ((lgc_eq y0 397973).mp c)
      refine E_iconst (v := 1) dX10_isReserved_64 (by decide) ?_
      refine E_goto (tgt := 69) dX10_isReserved_65 (by decide) ?_
      exact E_zret rfl (Or.inr rfl) dX10_isReserved_69 ⟨_, rfl, rfl, hB⟩
    · have hB := hB.2 (fun q => c ((lgc_eq y0 397973).mpr q))
      refine E_lload_n 0 dX10_isReserved_16 rfl rfl ?_
      refine E_ldc2 (v := 212302449) tm_509 dX10_isReserved_17 ?_
      refine E_lcmp dX10_isReserved_20 ?_
      refine E_if_eq (tgt := 64) dX10_isReserved_21 (by decide) (fun c => ?_) (fun c => ?_)
      · have hB := hB.1 ((lgc_eq y0 212302449).mp c)
        refine E_iconst (v := 1) dX10_isReserved_64 (by decide) ?_
        refine E_goto (tgt := 69) dX10_isReserved_65 (by decide) ?_
        exact E_zret rfl (Or.inr rfl) dX10_isReserved_69 ⟨_, rfl, rfl, hB⟩
      · have hB := hB.2 (fun q => c ((lgc_eq y0 212302449).mpr q))
        refine E_lload_n 0 dX10_isReserved_24 rfl rfl ?_
        refine E_ldc2 (v := 286880) tm_510 dX10_isReserved_25 ?_
        refine E_lcmp dX10_isReserved_28 ?_
        refine E_if_eq (tgt := 64) dX10_isReserved_29 (by decide) (fun c => ?_) (fun c => ?_)
        · have hB := hB.1 ((lgc_eq y0 286880).mp c)
          refine E_iconst (v := 1) dX10_isReserved_64 (by decide) ?_
          refine E_goto (tgt := 69) dX10_isReserved_65 (by decide) ?_
          exact E_zret rfl (Or.inr rfl) dX10_isReserved_69 ⟨_, rfl, rfl, hB⟩
        · have hB := hB.2 (fun q => c ((lgc_eq y0 286880).mpr q))
          refine E_lload_n 0 dX10_isReserved_32 rfl rfl ?_
          refine E_ldc2 (v := 279252) tm_511 dX10_isReserved_33 ?_
          refine E_lcmp dX10_isReserved_36 ?_
          refine E_if_eq (tgt := 64) dX10_isReserved_37 (by decide) (fun c => ?_) (fun c => ?_)
          · have hB := hB.1 ((lgc_eq y0 279252).mp c)
            refine E_iconst (v := 1) dX10_isReserved_64 (by decide) ?_
            refine E_goto (tgt := 69) dX10_isReserved_65 (by decide) ?_
            exact E_zret rfl (Or.inr rfl) dX10_isReserved_69 ⟨_, rfl, rfl, hB⟩
          · have hB := hB.2 (fun q => c ((lgc_eq y0 279252).mpr q))
            refine E_lload_n 0 dX10_isReserved_40 rfl rfl ?_
            refine E_ldc2 (v := 311436) tm_512 dX10_isReserved_41 ?_
            refine E_lcmp dX10_isReserved_44 ?_
            refine E_if_eq (tgt := 64) dX10_isReserved_45 (by decide) (fun c => ?_) (fun c => ?_)
            · have hB := hB.1 ((lgc_eq y0 311436).mp c)
              refine E_iconst (v := 1) dX10_isReserved_64 (by decide) ?_
              refine E_goto (tgt := 69) dX10_isReserved_65 (by decide) ?_
              exact E_zret rfl (Or.inr rfl) dX10_isReserved_69 ⟨_, rfl, rfl, hB⟩
            · have hB := hB.2 (fun q => c ((lgc_eq y0 311436).mpr q))
              refine E_lload_n 0 dX10_isReserved_48 rfl rfl ?_
              refine E_ldc2 (v := 11438892) tm_513 dX10_isReserved_49 ?_
              refine E_lcmp dX10_isReserved_52 ?_
              refine E_if_eq (tgt := 64) dX10_isReserved_53 (by decide) (fun c => ?_) (fun c => ?_)
              · have hB := hB.1 ((lgc_eq y0 11438892).mp c)
                refine E_iconst (v := 1) dX10_isReserved_64 (by decide) ?_
                refine E_goto (tgt := 69) dX10_isReserved_65 (by decide) ?_
                exact E_zret rfl (Or.inr rfl) dX10_isReserved_69 ⟨_, rfl, rfl, hB⟩
              · have hB := hB.2 (fun q => c ((lgc_eq y0 11438892).mpr q))
                refine E_lload_n 0 dX10_isReserved_56 rfl rfl ?_
                refine E_ldc2 (v := 411) tm_514 dX10_isReserved_57 ?_
                refine E_lcmp dX10_isReserved_60 ?_
                refine E_if_ne (tgt := 68) dX10_isReserved_61 (by decide) (fun c => ?_) (fun c => ?_)
                · have hB := hB.1 ((fun q => c ((lgc_eq y0 411).mpr q)))
                  refine E_iconst (v := 0) dX10_isReserved_68 (by decide) ?_
                  exact E_zret rfl (Or.inl rfl) dX10_isReserved_69 ⟨_, rfl, rfl, hB⟩
                · have hB := hB.2 ((lgc_eq y0 411).mp c)
                  refine E_iconst (v := 1) dX10_isReserved_64 (by decide) ?_
                  refine E_goto (tgt := 69) dX10_isReserved_65 (by decide) ?_
                  exact E_zret rfl (Or.inr rfl) dX10_isReserved_69 ⟨_, rfl, rfl, hB⟩

set_option maxRecDepth 20000 in
set_option maxHeartbeats 2000000 in
theorem kX0_priceOfWord_0 {K : KT} {G : St} {Q : Int32 → St → Prop} {h0 : Nat} {x1 : Int32} {y2 : Int64} (hL : Lay G.2.2) (hh0 : h0 = 39 ∨ h0 = 49)
    (hB : vp_in x1 30 ∧ vp_in (sI G (h0 + 5) (Int32.toNatClampNeg x1)) 5 ∧ ((¬ (sL G (h0 + 1) (Int32.toNatClampNeg (sI G (h0 + 5) (Int32.toNatClampNeg x1)))) = y2 → vp_in x1 30 ∧ EvI K mX1_hasColumnNamed 0 0 [(0, .ref h0), (1, .int (sI G (h0 + 5) (Int32.toNatClampNeg x1))), (2, .long y2)] [] G (fun r4 G4 => ((r4 = 0 → EvI K mX0_priceOfWord 2 45 [(0, .ref h0), (1, .int x1), (2, .long y2), (4, .int (-1)), (5, .int 0)] [] G4 Q) ∧ (¬ r4 = 0 → EvI K mX0_priceOfWord 2 45 [(0, .ref h0), (1, .int x1), (2, .long y2), (4, .int 4), (5, .int 0)] [] G4 Q)))) ∧ ((sL G (h0 + 1) (Int32.toNatClampNeg (sI G (h0 + 5) (Int32.toNatClampNeg x1)))) = y2 → EvI K mX0_priceOfWord 2 45 [(0, .ref h0), (1, .int x1), (2, .long y2), (4, .int 3), (5, .int 0)] [] G Q))) :
    EvI K mX0_priceOfWord 2 0 [(0, .ref h0), (1, .int x1), (2, .long y2)] [] G Q := by
  refine E_iconst (v := (-1)) dX0_priceOfWord_0 (by decide) ?_
  refine E_istore (lv' := [(0, .ref h0), (1, .int x1), (2, .long y2), (4, .int (-1))]) dX0_priceOfWord_1 (by decide) rfl ?_
  refine E_aload_n 0 dX0_priceOfWord_3 rfl rfl rfl ?_
  refine E_gR (j := h0 + 1) fG_X0_83 rfl (lhO hL hh0) (lhR0 hL hh0) (Nat.succ_pos _) dX0_priceOfWord_4 ?_
  refine E_aload_n 0 dX0_priceOfWord_7 rfl rfl rfl ?_
  refine E_gR (j := h0 + 5) fG_X0_86 rfl (lhO hL hh0) (lhR4 hL hh0) (Nat.succ_pos _) dX0_priceOfWord_8 ?_
  refine E_iload_n 1 dX0_priceOfWord_11 rfl rfl ?_
  obtain ⟨qq1, hB⟩ := hB
  refine E_aI (p := Int32.toNatClampNeg x1) (v := sI G (h0 + 5) (Int32.toNatClampNeg x1)) (lhA4 hL hh0) qq1 rfl rfl dX0_priceOfWord_12 ?_
  obtain ⟨qq2, hB⟩ := hB
  refine E_aL (p := Int32.toNatClampNeg (sI G (h0 + 5) (Int32.toNatClampNeg x1))) (v := sL G (h0 + 1) (Int32.toNatClampNeg (sI G (h0 + 5) (Int32.toNatClampNeg x1)))) (lhA0 hL hh0) qq2 rfl rfl dX0_priceOfWord_13 ?_
  refine E_lload_n 2 dX0_priceOfWord_14 rfl rfl ?_
  refine E_lcmp dX0_priceOfWord_15 ?_
  refine E_if_ne (tgt := 25) dX0_priceOfWord_16 (by decide) (fun c => ?_) (fun c => ?_)
  · have hB := hB.1 ((fun q => c ((lgc_eq (sL G (h0 + 1) (Int32.toNatClampNeg (sI G (h0 + 5) (Int32.toNatClampNeg x1)))) y2).mpr q)))
    refine E_aload_n 0 dX0_priceOfWord_25 rfl rfl rfl ?_
    refine E_aload_n 0 dX0_priceOfWord_26 rfl rfl rfl ?_
    refine E_gR (j := h0 + 5) fG_X0_86 rfl (lhO hL hh0) (lhR4 hL hh0) (Nat.succ_pos _) dX0_priceOfWord_27 ?_
    refine E_iload_n 1 dX0_priceOfWord_30 rfl rfl ?_
    obtain ⟨qq3, hB⟩ := hB
    refine E_aI (p := Int32.toNatClampNeg x1) (v := sI G (h0 + 5) (Int32.toNatClampNeg x1)) (lhA4 hL hh0) qq3 rfl rfl dX0_priceOfWord_31 ?_
    refine E_lload_n 2 dX0_priceOfWord_32 rfl rfl ?_
    refine E_cV (ci := 1) (as := [.int (sI G (h0 + 5) (Int32.toNatClampNeg x1)), .long y2]) (st := []) cm_X1_hasColumnNamed cV_X0_89 ⟨_, _, rfl⟩ (by decide) (lhO hL hh0) rfl rfl (by decide) (Nat.le_of_ble_eq_true rfl) (Nat.le_of_ble_eq_true rfl) dX0_priceOfWord_33 hB (fun r G4 hr => ?_)
    obtain ⟨r4, rfl, hE4, hB⟩ := hr
    have hL4 : Lay G4.2.2 := by rw [hE4]; exact hL
    have hE4 : G4.2.2 = G.2.2 := hE4
    show Ev K mX0_priceOfWord 2 36 [(0, .ref h0), (1, .int x1), (2, .long y2), (4, .int (-1))] [.int r4] G4 _
    refine E_if_eq (tgt := 42) dX0_priceOfWord_36 (by decide) (fun c => ?_) (fun c => ?_)
    · have hB := hB.1 c
      refine E_iconst (v := 0) dX0_priceOfWord_42 (by decide) ?_
      refine E_istore (lv' := [(0, .ref h0), (1, .int x1), (2, .long y2), (4, .int (-1)), (5, .int 0)]) dX0_priceOfWord_43 (by decide) rfl ?_
      exact EvI.tr hB hE4
    · have hB := hB.2 c
      refine E_iconst (v := 4) dX0_priceOfWord_39 (by decide) ?_
      refine E_istore (lv' := [(0, .ref h0), (1, .int x1), (2, .long y2), (4, .int 4)]) dX0_priceOfWord_40 (by decide) rfl ?_
      refine E_iconst (v := 0) dX0_priceOfWord_42 (by decide) ?_
      refine E_istore (lv' := [(0, .ref h0), (1, .int x1), (2, .long y2), (4, .int 4), (5, .int 0)]) dX0_priceOfWord_43 (by decide) rfl ?_
      exact EvI.tr hB hE4
  · have hB := hB.2 ((lgc_eq (sL G (h0 + 1) (Int32.toNatClampNeg (sI G (h0 + 5) (Int32.toNatClampNeg x1)))) y2).mp c)
    refine E_iconst (v := 3) dX0_priceOfWord_19 (by decide) ?_
    refine E_istore (lv' := [(0, .ref h0), (1, .int x1), (2, .long y2), (4, .int 3)]) dX0_priceOfWord_20 (by decide) rfl ?_
    refine E_goto (tgt := 42) dX0_priceOfWord_22 (by decide) ?_
    refine E_iconst (v := 0) dX0_priceOfWord_42 (by decide) ?_
    refine E_istore (lv' := [(0, .ref h0), (1, .int x1), (2, .long y2), (4, .int 3), (5, .int 0)]) dX0_priceOfWord_43 (by decide) rfl ?_
    exact EvI.tr hB rfl

set_option maxRecDepth 20000 in
set_option maxHeartbeats 2000000 in
theorem kX0_priceOfWord_45 {K : KT} {G : St} {Q : Int32 → St → Prop} {h0 : Nat} {x1 : Int32} {y2 : Int64} {x4 : Int32} {x5 : Int32} (hL : Lay G.2.2) (hh0 : h0 = 39 ∨ h0 = 49)
    (hB : ((4 ≤ x5 → Q x4 G) ∧ (¬ 4 ≤ x5 → EvL K mX1_wordAt 1 0 [(0, .ref h0), (1, .int x1), (2, .int x5)] [] G (fun r1 G1 => ((¬ r1 = y2 → ((r1 = 0 → EvI K mX0_priceOfWord 2 88 [(0, .ref h0), (1, .int x1), (2, .long y2), (4, .int x4), (5, .int x5)] [] G1 Q) ∧ (¬ r1 = 0 → EvI K mX10_isOtherForm 0 0 [(0, .long r1), (2, .long y2)] [] G1 (fun r2 G2 => ((r2 = 0 → EvI K mX0_priceOfWord 2 88 [(0, .ref h0), (1, .int x1), (2, .long y2), (4, .int x4), (5, .int x5)] [] G2 Q) ∧ (¬ r2 = 0 → EvI K mX0_priceOfWord 2 88 [(0, .ref h0), (1, .int x1), (2, .long y2), (4, .int 1), (5, .int x5)] [] G2 Q)))))) ∧ (r1 = y2 → Q 0 G1)))))) :
    EvI K mX0_priceOfWord 2 45 [(0, .ref h0), (1, .int x1), (2, .long y2), (4, .int x4), (5, .int x5)] [] G Q := by
  refine E_iload 4 dX0_priceOfWord_45 rfl ?_
  refine E_iconst (v := 4) dX0_priceOfWord_47 (by decide) ?_
  refine E_icmp_ge (tgt := 94) dX0_priceOfWord_48 (by decide) (fun c => ?_) (fun c => ?_)
  · have hB := hB.1 c
    refine E_iload 3 dX0_priceOfWord_94 rfl ?_
    exact E_iret rfl dX0_priceOfWord_96 ⟨_, rfl, rfl, hB⟩
  · have hB := hB.2 c
    refine E_aload_n 0 dX0_priceOfWord_51 rfl rfl rfl ?_
    refine E_iload_n 1 dX0_priceOfWord_52 rfl rfl ?_
    refine E_iload 4 dX0_priceOfWord_53 rfl ?_
    refine E_cV (ci := 1) (as := [.int x1, .int x5]) (st := []) cm_X1_wordAt cV_X0_93 ⟨_, _, rfl⟩ (by decide) (lhO hL hh0) rfl rfl (by decide) (Nat.le_of_ble_eq_true rfl) (Nat.le_of_ble_eq_true rfl) dX0_priceOfWord_55 hB (fun r G1 hr => ?_)
    obtain ⟨r1, rfl, hE1, hB⟩ := hr
    have hL1 : Lay G1.2.2 := by rw [hE1]; exact hL
    have hE1 : G1.2.2 = G.2.2 := hE1
    show Ev K mX0_priceOfWord 2 58 [(0, .ref h0), (1, .int x1), (2, .long y2), (4, .int x4), (5, .int x5)] [.long r1] G1 _
    refine E_lstore (lv' := [(0, .ref h0), (1, .int x1), (2, .long y2), (4, .int x4), (5, .int x5), (6, .long r1)]) dX0_priceOfWord_58 (by decide) rfl ?_
    refine E_lload 5 dX0_priceOfWord_60 rfl ?_
    refine E_lload_n 2 dX0_priceOfWord_62 rfl rfl ?_
    refine E_lcmp dX0_priceOfWord_63 ?_
    refine E_if_ne (tgt := 69) dX0_priceOfWord_64 (by decide) (fun c => ?_) (fun c => ?_)
    · have hB := hB.1 ((fun q => c ((lgc_eq r1 y2).mpr q)))
      refine E_lload 5 dX0_priceOfWord_69 rfl ?_
      refine E_lconst (v := 0) dX0_priceOfWord_71 (by decide) ?_
      refine E_lcmp dX0_priceOfWord_72 ?_
      refine E_if_eq (tgt := 88) dX0_priceOfWord_73 (by decide) (fun c => ?_) (fun c => ?_)
      · have hB := hB.1 ((lgc_eq r1 0).mp c)
        refine E_sub (lv' := [(0, .ref h0), (1, .int x1), (2, .long y2), (4, .int x4), (5, .int x5)]) [0, 1, 2, 3, 4] rfl ?_
        exact EvI.tr hB hE1
      · have hB := hB.2 (fun q => c ((lgc_eq r1 0).mpr q))
        refine E_lload 5 dX0_priceOfWord_76 rfl ?_
        refine E_lload_n 2 dX0_priceOfWord_78 rfl rfl ?_
        refine E_callS (as := [.long r1, .long y2]) (st := []) cm_X10_isOtherForm cS_X0_97 rfl rfl (by decide) (Nat.le_of_ble_eq_true rfl) (Nat.le_of_ble_eq_true rfl) dX0_priceOfWord_79 hB (fun r G2 hr => ?_)
        obtain ⟨r2, rfl, hE2, hB⟩ := hr
        have hL2 : Lay G2.2.2 := by rw [hE2]; exact hL1
        have hE2 : G2.2.2 = G.2.2 := hE2.trans hE1
        show Ev K mX0_priceOfWord 2 82 [(0, .ref h0), (1, .int x1), (2, .long y2), (4, .int x4), (5, .int x5), (6, .long r1)] [.int r2] G2 _
        refine E_if_eq (tgt := 88) dX0_priceOfWord_82 (by decide) (fun c => ?_) (fun c => ?_)
        · have hB := hB.1 c
          refine E_sub (lv' := [(0, .ref h0), (1, .int x1), (2, .long y2), (4, .int x4), (5, .int x5)]) [0, 1, 2, 3, 4] rfl ?_
          exact EvI.tr hB hE2
        · have hB := hB.2 c
          refine E_iconst (v := 1) dX0_priceOfWord_85 (by decide) ?_
          refine E_istore (lv' := [(0, .ref h0), (1, .int x1), (2, .long y2), (4, .int 1), (5, .int x5), (6, .long r1)]) dX0_priceOfWord_86 (by decide) rfl ?_
          refine E_sub (lv' := [(0, .ref h0), (1, .int x1), (2, .long y2), (4, .int 1), (5, .int x5)]) [0, 1, 2, 3, 4] rfl ?_
          exact EvI.tr hB hE2
    · have hB := hB.2 ((lgc_eq r1 y2).mp c)
      refine E_iconst (v := 0) dX0_priceOfWord_67 (by decide) ?_
      exact E_iret rfl dX0_priceOfWord_68 ⟨_, rfl, hE1, hB⟩

set_option maxRecDepth 20000 in
set_option maxHeartbeats 2000000 in
theorem kX0_priceOfWord_88 {K : KT} {G : St} {Q : Int32 → St → Prop} {h0 : Nat} {x1 : Int32} {y2 : Int64} {x4 : Int32} {x5 : Int32} (hL : Lay G.2.2) (hh0 : h0 = 39 ∨ h0 = 49)
    (hB : EvI K mX0_priceOfWord 2 45 [(0, .ref h0), (1, .int x1), (2, .long y2), (4, .int x4), (5, .int (x5 + 1))] [] G Q) :
    EvI K mX0_priceOfWord 2 88 [(0, .ref h0), (1, .int x1), (2, .long y2), (4, .int x4), (5, .int x5)] [] G Q := by
  refine E_iinc (v := x5 + 1) (lv' := [(0, .ref h0), (1, .int x1), (2, .long y2), (4, .int x4), (5, .int (x5 + 1))]) 4 dX0_priceOfWord_88 rfl rfl (by decide) rfl ?_
  refine E_goto (tgt := 45) dX0_priceOfWord_91 (by decide) ?_
  exact EvI.tr hB rfl

set_option maxRecDepth 20000 in
set_option maxHeartbeats 2000000 in
theorem kX0_priceOfNear_0 {K : KT} {G : St} {Q : Int32 → St → Prop} {h0 : Nat} {x1 : Int32} {y2 : Int64} (hL : Lay G.2.2) (hh0 : h0 = 39 ∨ h0 = 49)
    (hB : EvI K mX0_priceOfNear 2 6 [(0, .ref h0), (1, .int x1), (2, .long y2), (4, .int (-1)), (5, .int 0)] [] G Q) :
    EvI K mX0_priceOfNear 2 0 [(0, .ref h0), (1, .int x1), (2, .long y2)] [] G Q := by
  refine E_iconst (v := (-1)) dX0_priceOfNear_0 (by decide) ?_
  refine E_istore (lv' := [(0, .ref h0), (1, .int x1), (2, .long y2), (4, .int (-1))]) dX0_priceOfNear_1 (by decide) rfl ?_
  refine E_iconst (v := 0) dX0_priceOfNear_3 (by decide) ?_
  refine E_istore (lv' := [(0, .ref h0), (1, .int x1), (2, .long y2), (4, .int (-1)), (5, .int 0)]) dX0_priceOfNear_4 (by decide) rfl ?_
  exact EvI.tr hB rfl

set_option maxRecDepth 20000 in
set_option maxHeartbeats 2000000 in
theorem kX0_priceOfNear_6 {K : KT} {G : St} {Q : Int32 → St → Prop} {h0 : Nat} {x1 : Int32} {y2 : Int64} {x4 : Int32} {x5 : Int32} (hL : Lay G.2.2) (hh0 : h0 = 39 ∨ h0 = 49)
    (hB : ((4 ≤ x5 → Q x4 G) ∧ (¬ 4 ≤ x5 → EvL K mX1_wordAt 1 0 [(0, .ref h0), (1, .int x1), (2, .int x5)] [] G (fun r1 G1 => ((¬ r1 = y2 → ((r1 = 0 → EvI K mX0_priceOfNear 2 49 [(0, .ref h0), (1, .int x1), (2, .long y2), (4, .int x4), (5, .int x5)] [] G1 Q) ∧ (¬ r1 = 0 → EvI K mX10_isOneLetterApart 1 0 [(0, .long r1), (2, .long y2)] [] G1 (fun r2 G2 => ((r2 = 0 → EvI K mX0_priceOfNear 2 49 [(0, .ref h0), (1, .int x1), (2, .long y2), (4, .int x4), (5, .int x5)] [] G2 Q) ∧ (¬ r2 = 0 → EvI K mX0_priceOfNear 2 49 [(0, .ref h0), (1, .int x1), (2, .long y2), (4, .int 2), (5, .int x5)] [] G2 Q)))))) ∧ (r1 = y2 → Q 0 G1)))))) :
    EvI K mX0_priceOfNear 2 6 [(0, .ref h0), (1, .int x1), (2, .long y2), (4, .int x4), (5, .int x5)] [] G Q := by
  refine E_iload 4 dX0_priceOfNear_6 rfl ?_
  refine E_iconst (v := 4) dX0_priceOfNear_8 (by decide) ?_
  refine E_icmp_ge (tgt := 55) dX0_priceOfNear_9 (by decide) (fun c => ?_) (fun c => ?_)
  · have hB := hB.1 c
    refine E_iload 3 dX0_priceOfNear_55 rfl ?_
    exact E_iret rfl dX0_priceOfNear_57 ⟨_, rfl, rfl, hB⟩
  · have hB := hB.2 c
    refine E_aload_n 0 dX0_priceOfNear_12 rfl rfl rfl ?_
    refine E_iload_n 1 dX0_priceOfNear_13 rfl rfl ?_
    refine E_iload 4 dX0_priceOfNear_14 rfl ?_
    refine E_cV (ci := 1) (as := [.int x1, .int x5]) (st := []) cm_X1_wordAt cV_X0_93 ⟨_, _, rfl⟩ (by decide) (lhO hL hh0) rfl rfl (by decide) (Nat.le_of_ble_eq_true rfl) (Nat.le_of_ble_eq_true rfl) dX0_priceOfNear_16 hB (fun r G1 hr => ?_)
    obtain ⟨r1, rfl, hE1, hB⟩ := hr
    have hL1 : Lay G1.2.2 := by rw [hE1]; exact hL
    have hE1 : G1.2.2 = G.2.2 := hE1
    show Ev K mX0_priceOfNear 2 19 [(0, .ref h0), (1, .int x1), (2, .long y2), (4, .int x4), (5, .int x5)] [.long r1] G1 _
    refine E_lstore (lv' := [(0, .ref h0), (1, .int x1), (2, .long y2), (4, .int x4), (5, .int x5), (6, .long r1)]) dX0_priceOfNear_19 (by decide) rfl ?_
    refine E_lload 5 dX0_priceOfNear_21 rfl ?_
    refine E_lload_n 2 dX0_priceOfNear_23 rfl rfl ?_
    refine E_lcmp dX0_priceOfNear_24 ?_
    refine E_if_ne (tgt := 30) dX0_priceOfNear_25 (by decide) (fun c => ?_) (fun c => ?_)
    · have hB := hB.1 ((fun q => c ((lgc_eq r1 y2).mpr q)))
      refine E_lload 5 dX0_priceOfNear_30 rfl ?_
      refine E_lconst (v := 0) dX0_priceOfNear_32 (by decide) ?_
      refine E_lcmp dX0_priceOfNear_33 ?_
      refine E_if_eq (tgt := 49) dX0_priceOfNear_34 (by decide) (fun c => ?_) (fun c => ?_)
      · have hB := hB.1 ((lgc_eq r1 0).mp c)
        refine E_sub (lv' := [(0, .ref h0), (1, .int x1), (2, .long y2), (4, .int x4), (5, .int x5)]) [0, 1, 2, 3, 4] rfl ?_
        exact EvI.tr hB hE1
      · have hB := hB.2 (fun q => c ((lgc_eq r1 0).mpr q))
        refine E_lload 5 dX0_priceOfNear_37 rfl ?_
        refine E_lload_n 2 dX0_priceOfNear_39 rfl rfl ?_
        refine E_callS (as := [.long r1, .long y2]) (st := []) cm_X10_isOneLetterApart cS_X0_103 rfl rfl (by decide) (Nat.le_of_ble_eq_true rfl) (Nat.le_of_ble_eq_true rfl) dX0_priceOfNear_40 hB (fun r G2 hr => ?_)
        obtain ⟨r2, rfl, hE2, hB⟩ := hr
        have hL2 : Lay G2.2.2 := by rw [hE2]; exact hL1
        have hE2 : G2.2.2 = G.2.2 := hE2.trans hE1
        show Ev K mX0_priceOfNear 2 43 [(0, .ref h0), (1, .int x1), (2, .long y2), (4, .int x4), (5, .int x5), (6, .long r1)] [.int r2] G2 _
        refine E_if_eq (tgt := 49) dX0_priceOfNear_43 (by decide) (fun c => ?_) (fun c => ?_)
        · have hB := hB.1 c
          refine E_sub (lv' := [(0, .ref h0), (1, .int x1), (2, .long y2), (4, .int x4), (5, .int x5)]) [0, 1, 2, 3, 4] rfl ?_
          exact EvI.tr hB hE2
        · have hB := hB.2 c
          refine E_iconst (v := 2) dX0_priceOfNear_46 (by decide) ?_
          refine E_istore (lv' := [(0, .ref h0), (1, .int x1), (2, .long y2), (4, .int 2), (5, .int x5), (6, .long r1)]) dX0_priceOfNear_47 (by decide) rfl ?_
          refine E_sub (lv' := [(0, .ref h0), (1, .int x1), (2, .long y2), (4, .int 2), (5, .int x5)]) [0, 1, 2, 3, 4] rfl ?_
          exact EvI.tr hB hE2
    · have hB := hB.2 ((lgc_eq r1 y2).mp c)
      refine E_iconst (v := 0) dX0_priceOfNear_28 (by decide) ?_
      exact E_iret rfl dX0_priceOfNear_29 ⟨_, rfl, hE1, hB⟩

set_option maxRecDepth 20000 in
set_option maxHeartbeats 2000000 in
theorem kX0_priceOfNear_49 {K : KT} {G : St} {Q : Int32 → St → Prop} {h0 : Nat} {x1 : Int32} {y2 : Int64} {x4 : Int32} {x5 : Int32} (hL : Lay G.2.2) (hh0 : h0 = 39 ∨ h0 = 49)
    (hB : EvI K mX0_priceOfNear 2 6 [(0, .ref h0), (1, .int x1), (2, .long y2), (4, .int x4), (5, .int (x5 + 1))] [] G Q) :
    EvI K mX0_priceOfNear 2 49 [(0, .ref h0), (1, .int x1), (2, .long y2), (4, .int x4), (5, .int x5)] [] G Q := by
  refine E_iinc (v := x5 + 1) (lv' := [(0, .ref h0), (1, .int x1), (2, .long y2), (4, .int x4), (5, .int (x5 + 1))]) 4 dX0_priceOfNear_49 rfl rfl (by decide) rfl ?_
  refine E_goto (tgt := 6) dX0_priceOfNear_52 (by decide) ?_
  exact EvI.tr hB rfl

set_option maxRecDepth 20000 in
set_option maxHeartbeats 2000000 in
theorem kX0_priceOfNumber_0 {K : KT} {G : St} {Q : Int32 → St → Prop} {h0 : Nat} {x1 : Int32} {x2 : Int32} {y3 : Int64} (hL : Lay G.2.2) (hh0 : h0 = 39 ∨ h0 = 49)
    (hB : EvI K mX0_priceOfNumber 2 3 [(0, .ref h0), (1, .int x1), (2, .int x2), (3, .long y3), (5, .int 0)] [] G Q) :
    EvI K mX0_priceOfNumber 2 0 [(0, .ref h0), (1, .int x1), (2, .int x2), (3, .long y3)] [] G Q := by
  refine E_iconst (v := 0) dX0_priceOfNumber_0 (by decide) ?_
  refine E_istore (lv' := [(0, .ref h0), (1, .int x1), (2, .int x2), (3, .long y3), (5, .int 0)]) dX0_priceOfNumber_1 (by decide) rfl ?_
  exact EvI.tr hB rfl

set_option maxRecDepth 20000 in
set_option maxHeartbeats 2000000 in
theorem kX0_priceOfNumber_3 {K : KT} {G : St} {Q : Int32 → St → Prop} {h0 : Nat} {x1 : Int32} {x2 : Int32} {y3 : Int64} {x5 : Int32} (hL : Lay G.2.2) (hh0 : h0 = 39 ∨ h0 = 49)
    (hB : ((4 ≤ x5 → Q (-1) G) ∧ (¬ 4 ≤ x5 → EvL K mX1_numberAt 1 0 [(0, .ref h0), (1, .int x1), (2, .int x5)] [] G (fun r1 G1 => ((r1 = (-1) → EvI K mX0_priceOfNumber 2 50 [(0, .ref h0), (1, .int x1), (2, .int x2), (3, .long y3), (5, .int x5)] [] G1 Q) ∧ (¬ r1 = (-1) → ((x2 = 0 → ((¬ r1 < y3 → EvI K mX0_priceOfNumber 2 50 [(0, .ref h0), (1, .int x1), (2, .int x2), (3, .long y3), (5, .int x5)] [] G1 Q) ∧ (r1 < y3 → Q 1 G1))) ∧ (¬ x2 = 0 → ((¬ y3 < r1 → EvI K mX0_priceOfNumber 2 50 [(0, .ref h0), (1, .int x1), (2, .int x2), (3, .long y3), (5, .int x5)] [] G1 Q) ∧ (y3 < r1 → Q 1 G1)))))))))) :
    EvI K mX0_priceOfNumber 2 3 [(0, .ref h0), (1, .int x1), (2, .int x2), (3, .long y3), (5, .int x5)] [] G Q := by
  refine E_iload 4 dX0_priceOfNumber_3 rfl ?_
  refine E_iconst (v := 4) dX0_priceOfNumber_5 (by decide) ?_
  refine E_icmp_ge (tgt := 56) dX0_priceOfNumber_6 (by decide) (fun c => ?_) (fun c => ?_)
  · have hB := hB.1 c
    refine E_iconst (v := (-1)) dX0_priceOfNumber_56 (by decide) ?_
    exact E_iret rfl dX0_priceOfNumber_57 ⟨_, rfl, rfl, hB⟩
  · have hB := hB.2 c
    refine E_aload_n 0 dX0_priceOfNumber_9 rfl rfl rfl ?_
    refine E_iload_n 1 dX0_priceOfNumber_10 rfl rfl ?_
    refine E_iload 4 dX0_priceOfNumber_11 rfl ?_
    refine E_cV (ci := 1) (as := [.int x1, .int x5]) (st := []) cm_X1_numberAt cV_X0_106 ⟨_, _, rfl⟩ (by decide) (lhO hL hh0) rfl rfl (by decide) (Nat.le_of_ble_eq_true rfl) (Nat.le_of_ble_eq_true rfl) dX0_priceOfNumber_13 hB (fun r G1 hr => ?_)
    obtain ⟨r1, rfl, hE1, hB⟩ := hr
    have hL1 : Lay G1.2.2 := by rw [hE1]; exact hL
    have hE1 : G1.2.2 = G.2.2 := hE1
    show Ev K mX0_priceOfNumber 2 16 [(0, .ref h0), (1, .int x1), (2, .int x2), (3, .long y3), (5, .int x5)] [.long r1] G1 _
    refine E_lstore (lv' := [(0, .ref h0), (1, .int x1), (2, .int x2), (3, .long y3), (5, .int x5), (6, .long r1)]) dX0_priceOfNumber_16 (by decide) rfl ?_
    refine E_lload 5 dX0_priceOfNumber_18 rfl ?_
    refine E_ldc2 (v := (-1)) tm_741 dX0_priceOfNumber_20 ?_
    refine E_lcmp dX0_priceOfNumber_23 ?_
    refine E_if_eq (tgt := 50) dX0_priceOfNumber_24 (by decide) (fun c => ?_) (fun c => ?_)
    · have hB := hB.1 ((lgc_eq r1 (-1)).mp c)
      refine E_sub (lv' := [(0, .ref h0), (1, .int x1), (2, .int x2), (3, .long y3), (5, .int x5)]) [0, 1, 2, 3, 4] rfl ?_
      exact EvI.tr hB hE1
    · have hB := hB.2 (fun q => c ((lgc_eq r1 (-1)).mpr q))
      refine E_iload_n 2 dX0_priceOfNumber_27 rfl rfl ?_
      refine E_if_eq (tgt := 41) dX0_priceOfNumber_28 (by decide) (fun c => ?_) (fun c => ?_)
      · have hB := hB.1 c
        refine E_lload 5 dX0_priceOfNumber_41 rfl ?_
        refine E_lload_n 3 dX0_priceOfNumber_43 rfl rfl ?_
        refine E_lcmp dX0_priceOfNumber_44 ?_
        refine E_if_ge (tgt := 50) dX0_priceOfNumber_45 (by decide) (fun c => ?_) (fun c => ?_)
        · have hB := hB.1 ((fun q => absurd ((lgc_lt r1 y3).mpr q) (Int32.not_lt.mpr c)))
          refine E_sub (lv' := [(0, .ref h0), (1, .int x1), (2, .int x2), (3, .long y3), (5, .int x5)]) [0, 1, 2, 3, 4] rfl ?_
          exact EvI.tr hB hE1
        · have hB := hB.2 ((lgc_lt r1 y3).mp (Int32.not_le.mp c))
          refine E_iconst (v := 1) dX0_priceOfNumber_48 (by decide) ?_
          exact E_iret rfl dX0_priceOfNumber_49 ⟨_, rfl, hE1, hB⟩
      · have hB := hB.2 c
        refine E_lload 5 dX0_priceOfNumber_31 rfl ?_
        refine E_lload_n 3 dX0_priceOfNumber_33 rfl rfl ?_
        refine E_lcmp dX0_priceOfNumber_34 ?_
        refine E_if_le (tgt := 50) dX0_priceOfNumber_35 (by decide) (fun c => ?_) (fun c => ?_)
        · have hB := hB.1 ((fun q => absurd ((lgc_gt r1 y3).mpr q) (Int32.not_lt.mpr c)))
          refine E_sub (lv' := [(0, .ref h0), (1, .int x1), (2, .int x2), (3, .long y3), (5, .int x5)]) [0, 1, 2, 3, 4] rfl ?_
          exact EvI.tr hB hE1
        · have hB := hB.2 ((lgc_gt r1 y3).mp (Int32.not_le.mp c))
          refine E_goto (tgt := 48) dX0_priceOfNumber_38 (by decide) ?_
          refine E_iconst (v := 1) dX0_priceOfNumber_48 (by decide) ?_
          exact E_iret rfl dX0_priceOfNumber_49 ⟨_, rfl, hE1, hB⟩

set_option maxRecDepth 20000 in
set_option maxHeartbeats 2000000 in
theorem kX0_priceOfNumber_50 {K : KT} {G : St} {Q : Int32 → St → Prop} {h0 : Nat} {x1 : Int32} {x2 : Int32} {y3 : Int64} {x5 : Int32} (hL : Lay G.2.2) (hh0 : h0 = 39 ∨ h0 = 49)
    (hB : EvI K mX0_priceOfNumber 2 3 [(0, .ref h0), (1, .int x1), (2, .int x2), (3, .long y3), (5, .int (x5 + 1))] [] G Q) :
    EvI K mX0_priceOfNumber 2 50 [(0, .ref h0), (1, .int x1), (2, .int x2), (3, .long y3), (5, .int x5)] [] G Q := by
  refine E_iinc (v := x5 + 1) (lv' := [(0, .ref h0), (1, .int x1), (2, .int x2), (3, .long y3), (5, .int (x5 + 1))]) 4 dX0_priceOfNumber_50 rfl rfl (by decide) rfl ?_
  refine E_goto (tgt := 3) dX0_priceOfNumber_53 (by decide) ?_
  exact EvI.tr hB rfl

set_option maxRecDepth 20000 in
set_option maxHeartbeats 2000000 in
theorem kX0_priceOf_0 {K : KT} {G : St} {Q : Int32 → St → Prop} {h0 : Nat} {x1 : Int32} {x2 : Int32} {y3 : Int64} (hL : Lay G.2.2) (hh0 : h0 = 39 ∨ h0 = 49)
    (hB : ((x2 = 0 → EvI K mX0_priceOfWord 2 0 [(0, .ref h0), (1, .int x1), (2, .long y3)] [] G (fun r1 G1 => Q r1 G1)) ∧ (x2 = 1 → EvI K mX0_priceOfNear 2 0 [(0, .ref h0), (1, .int x1), (2, .long y3)] [] G (fun r2 G2 => Q r2 G2)) ∧ (¬ x2 = 0 → ¬ x2 = 1 → ((¬ x2 = 2 → EvI K mX0_priceOf 3 54 [(3, .long y3)] [.int 0, .int x1, .ref h0] G Q) ∧ (x2 = 2 → EvI K mX0_priceOf 3 54 [(3, .long y3)] [.int 1, .int x1, .ref h0] G Q))))) :
    EvI K mX0_priceOf 3 0 [(0, .ref h0), (1, .int x1), (2, .int x2), (3, .long y3)] [] G Q := by
  refine E_iload_n 2 dX0_priceOf_0 rfl rfl ?_
  obtain ⟨hA, hB⟩ := hB
  by_cases c0 : x2 = 0
  · have hB := hA c0
    refine E_lookup (off := 27) (tgt := 28) dX0_priceOf_1 (by decide) (by rw [c0]; decide) (by decide) ?_
    refine E_aload_n 0 dX0_priceOf_28 rfl rfl rfl ?_
    refine E_iload_n 1 dX0_priceOf_29 rfl rfl ?_
    refine E_lload_n 3 dX0_priceOf_30 rfl rfl ?_
    refine E_callS (as := [.ref h0, .int x1, .long y3]) (st := []) cm_X0_priceOfWord cS_X0_72 rfl rfl (by decide) (Nat.le_of_ble_eq_true rfl) (Nat.le_of_ble_eq_true rfl) dX0_priceOf_31 hB (fun r G1 hr => ?_)
    obtain ⟨r1, rfl, hE1, hB⟩ := hr
    have hL1 : Lay G1.2.2 := by rw [hE1]; exact hL
    have hE1 : G1.2.2 = G.2.2 := hE1
    show Ev K mX0_priceOf 3 34 [(0, .ref h0), (1, .int x1), (2, .int x2), (3, .long y3)] [.int r1] G1 _
    exact E_iret rfl dX0_priceOf_34 ⟨_, rfl, hE1, hB⟩
  obtain ⟨hA, hB⟩ := hB
  by_cases c1 : x2 = 1
  · have hB := hA c1
    refine E_lookup (off := 34) (tgt := 35) dX0_priceOf_1 (by decide) (by rw [c1]; decide) (by decide) ?_
    refine E_aload_n 0 dX0_priceOf_35 rfl rfl rfl ?_
    refine E_iload_n 1 dX0_priceOf_36 rfl rfl ?_
    refine E_lload_n 3 dX0_priceOf_37 rfl rfl ?_
    refine E_callS (as := [.ref h0, .int x1, .long y3]) (st := []) cm_X0_priceOfNear cS_X0_76 rfl rfl (by decide) (Nat.le_of_ble_eq_true rfl) (Nat.le_of_ble_eq_true rfl) dX0_priceOf_38 hB (fun r G2 hr => ?_)
    obtain ⟨r2, rfl, hE2, hB⟩ := hr
    have hL2 : Lay G2.2.2 := by rw [hE2]; exact hL
    have hE2 : G2.2.2 = G.2.2 := hE2
    show Ev K mX0_priceOf 3 41 [(0, .ref h0), (1, .int x1), (2, .int x2), (3, .long y3)] [.int r2] G2 _
    exact E_iret rfl dX0_priceOf_41 ⟨_, rfl, hE2, hB⟩
  have hB := hB c0 c1
  refine E_lookup (off := 41) (tgt := 42) dX0_priceOf_1 (by decide) (lk_out2 c0 c1) (by decide) ?_
  refine E_aload_n 0 dX0_priceOf_42 rfl rfl rfl ?_
  refine E_iload_n 1 dX0_priceOf_43 rfl rfl ?_
  refine E_iload_n 2 dX0_priceOf_44 rfl rfl ?_
  refine E_iconst (v := 2) dX0_priceOf_45 (by decide) ?_
  refine E_icmp_ne (tgt := 53) dX0_priceOf_46 (by decide) (fun c => ?_) (fun c => ?_)
  · have hB := hB.1 c
    refine E_iconst (v := 0) dX0_priceOf_53 (by decide) ?_
    refine E_sub (lv' := [(3, .long y3)]) [3] rfl ?_
    exact EvI.tr hB rfl
  · have hB := hB.2 c
    refine E_iconst (v := 1) dX0_priceOf_49 (by decide) ?_
    refine E_goto (tgt := 54) dX0_priceOf_50 (by decide) ?_
    refine E_sub (lv' := [(3, .long y3)]) [3] rfl ?_
    exact EvI.tr hB rfl

set_option maxRecDepth 20000 in
set_option maxHeartbeats 2000000 in
theorem kX0_priceOf_54 {K : KT} {G : St} {Q : Int32 → St → Prop} {y3 : Int64} {hs0 : Nat} {xs1 : Int32} {xs2 : Int32} (hL : Lay G.2.2) (hhs0 : hs0 = 39 ∨ hs0 = 49)
    (hB : EvI K mX0_priceOfNumber 2 0 [(0, .ref hs0), (1, .int xs1), (2, .int xs2), (3, .long y3)] [] G (fun r1 G1 => Q r1 G1)) :
    EvI K mX0_priceOf 3 54 [(3, .long y3)] [.int xs2, .int xs1, .ref hs0] G Q := by
  refine E_lload_n 0 dX0_priceOf_54 rfl rfl ?_
  refine E_callS (as := [.ref hs0, .int xs1, .int xs2, .long y3]) (st := []) cm_X0_priceOfNumber cS_X0_79 rfl rfl (by decide) (Nat.le_of_ble_eq_true rfl) (Nat.le_of_ble_eq_true rfl) dX0_priceOf_55 hB (fun r G1 hr => ?_)
  obtain ⟨r1, rfl, hE1, hB⟩ := hr
  have hL1 : Lay G1.2.2 := by rw [hE1]; exact hL
  have hE1 : G1.2.2 = G.2.2 := hE1
  show Ev K mX0_priceOf 3 58 [(3, .long y3)] [.int r1] G1 _
  exact E_iret rfl dX0_priceOf_58 ⟨_, rfl, hE1, hB⟩

set_option maxRecDepth 20000 in
set_option maxHeartbeats 2000000 in
theorem kX0_keep_0 {K : KT} {G : St} {Q : St → Prop} {x1 : Int32} {x2 : Int32} {x3 : Int32} (hL : Lay G.2.2) 
    (hB : vp_in ((x2 * 30) + x1) 120 ∧ ((¬ x3 = (-1) → vp_in x2 4 ∧ vp_in x2 4 ∧ vp_in x1 30 ∧ vp_in x1 30 ∧ ∀ G6 : St, G6 = (uI (uI (uI G 6 (Int32.toNatClampNeg ((x2 * 30) + x1)) x3) 8 (Int32.toNatClampNeg x2) ((sI G 8 (Int32.toNatClampNeg x2)) ||| (1 <<< (x1 &&& 31)))) 10 (Int32.toNatClampNeg x1) ((sI G 10 (Int32.toNatClampNeg x1)) ||| (1 <<< (x2 &&& 31)))) → vp_in x2 4 ∧ (((sI G6 9 (Int32.toNatClampNeg x2)) = (-1) → EvV K mX0_keep 0 62 [(0, .ref 5), (2, .int x2), (3, .int x3)] [] G6 Q) ∧ (¬ (sI G6 9 (Int32.toNatClampNeg x2)) = (-1) → vp_in x2 4 ∧ (((sI G6 9 (Int32.toNatClampNeg x2)) ≤ x3 → Q G6) ∧ (¬ (sI G6 9 (Int32.toNatClampNeg x2)) ≤ x3 → EvV K mX0_keep 0 62 [(0, .ref 5), (2, .int x2), (3, .int x3)] [] G6 Q))))) ∧ (x3 = (-1) → Q (uI G 6 (Int32.toNatClampNeg ((x2 * 30) + x1)) x3)))) :
    EvV K mX0_keep 0 0 [(0, .ref 5), (1, .int x1), (2, .int x2), (3, .int x3)] [] G Q := by
  refine E_aload_n 0 dX0_keep_0 rfl rfl rfl ?_
  refine E_gR (j := 6) fG_X0_13 rfl (lo_5 hL) (lr_5_0 hL) (by decide) dX0_keep_1 ?_
  refine E_iload_n 2 dX0_keep_4 rfl rfl ?_
  refine E_bipush (v := 30) dX0_keep_5 (by decide) ?_
  refine E_imul dX0_keep_7 ?_
  refine E_iload_n 1 dX0_keep_8 rfl rfl ?_
  refine E_iadd dX0_keep_9 ?_
  refine E_iload_n 3 dX0_keep_10 rfl rfl ?_
  obtain ⟨qq1, hB⟩ := hB
  refine E_sI (p := Int32.toNatClampNeg ((x2 * 30) + x1)) (la_6 hL) qq1 rfl dX0_keep_11 ?_
  refine E_iload_n 3 dX0_keep_12 rfl rfl ?_
  refine E_iconst (v := (-1)) dX0_keep_13 (by decide) ?_
  refine E_icmp_ne (tgt := 18) dX0_keep_14 (by decide) (fun c => ?_) (fun c => ?_)
  · have hB := hB.1 c
    refine E_aload_n 0 dX0_keep_18 rfl rfl rfl ?_
    refine E_gR (j := 8) fG_X0_23 rfl (lo_5 hL) (lr_5_3 hL) (by decide) dX0_keep_19 ?_
    refine E_iload_n 2 dX0_keep_22 rfl rfl ?_
    refine E_dup2 dX0_keep_23 rfl rfl ?_
    obtain ⟨qq2, hB⟩ := hB
    refine E_aI (p := Int32.toNatClampNeg x2) (v := sI G 8 (Int32.toNatClampNeg x2)) (la_8 hL) qq2 rfl rfl dX0_keep_24 ?_
    refine E_iconst (v := 1) dX0_keep_25 (by decide) ?_
    refine E_iload_n 1 dX0_keep_26 rfl rfl ?_
    refine E_ishl dX0_keep_27 ?_
    refine E_ior dX0_keep_28 ?_
    obtain ⟨qq3, hB⟩ := hB
    refine E_sI (p := Int32.toNatClampNeg x2) (la_8 hL) qq3 rfl dX0_keep_29 ?_
    refine E_aload_n 0 dX0_keep_30 rfl rfl rfl ?_
    refine E_gR (j := 10) fG_X0_29 rfl (lo_5 hL) (lr_5_5 hL) (by decide) dX0_keep_31 ?_
    refine E_iload_n 1 dX0_keep_34 rfl rfl ?_
    refine E_dup2 dX0_keep_35 rfl rfl ?_
    obtain ⟨qq4, hB⟩ := hB
    refine E_aI (p := Int32.toNatClampNeg x1) (v := sI G 10 (Int32.toNatClampNeg x1)) (la_10 hL) qq4 rfl rfl dX0_keep_36 ?_
    refine E_iconst (v := 1) dX0_keep_37 (by decide) ?_
    refine E_iload_n 2 dX0_keep_38 rfl rfl ?_
    refine E_ishl dX0_keep_39 ?_
    refine E_ior dX0_keep_40 ?_
    obtain ⟨qq5, hB⟩ := hB
    refine E_sI (p := Int32.toNatClampNeg x1) (la_10 hL) qq5 rfl dX0_keep_41 ?_
    refine E_nmG (fun G6 eG6 => ?_)
    have hB := hB G6 eG6
    have hL6 : Lay G6.2.2 := by rw [eG6]; exact hL
    have hE6 : G6.2.2 = G.2.2 := by rw [eG6]; exact rfl
    refine E_aload_n 0 dX0_keep_42 rfl rfl rfl ?_
    refine E_gR (j := 9) fG_X0_26 rfl (lo_5 hL6) (lr_5_4 hL6) (by decide) dX0_keep_43 ?_
    refine E_iload_n 2 dX0_keep_46 rfl rfl ?_
    obtain ⟨qq7, hB⟩ := hB
    refine E_aI (p := Int32.toNatClampNeg x2) (v := sI G6 9 (Int32.toNatClampNeg x2)) (la_9 hL6) qq7 rfl rfl dX0_keep_47 ?_
    refine E_iconst (v := (-1)) dX0_keep_48 (by decide) ?_
    refine E_icmp_eq (tgt := 62) dX0_keep_49 (by decide) (fun c => ?_) (fun c => ?_)
    · have hB := hB.1 c
      refine E_sub (lv' := [(0, .ref 5), (2, .int x2), (3, .int x3)]) [0, 2, 3] rfl ?_
      exact EvV.tr hB hE6
    · have hB := hB.2 c
      refine E_iload_n 3 dX0_keep_52 rfl rfl ?_
      refine E_aload_n 0 dX0_keep_53 rfl rfl rfl ?_
      refine E_gR (j := 9) fG_X0_26 rfl (lo_5 hL6) (lr_5_4 hL6) (by decide) dX0_keep_54 ?_
      refine E_iload_n 2 dX0_keep_57 rfl rfl ?_
      obtain ⟨qq8, hB⟩ := hB
      refine E_aI (p := Int32.toNatClampNeg x2) (v := sI G6 9 (Int32.toNatClampNeg x2)) (la_9 hL6) qq8 rfl rfl dX0_keep_58 ?_
      refine E_icmp_ge (tgt := 69) dX0_keep_59 (by decide) (fun c => ?_) (fun c => ?_)
      · have hB := hB.1 c
        exact E_vret rfl dX0_keep_69 ⟨rfl, hE6, hB⟩
      · have hB := hB.2 c
        refine E_sub (lv' := [(0, .ref 5), (2, .int x2), (3, .int x3)]) [0, 2, 3] rfl ?_
        exact EvV.tr hB hE6
  · have hB := hB.2 c
    exact E_vret rfl dX0_keep_17 ⟨rfl, rfl, hB⟩

set_option maxRecDepth 20000 in
set_option maxHeartbeats 2000000 in
theorem kX0_keep_62 {K : KT} {G : St} {Q : St → Prop} {x2 : Int32} {x3 : Int32} (hL : Lay G.2.2) 
    (hB : vp_in x2 4 ∧ Q (uI G 9 (Int32.toNatClampNeg x2) x3)) :
    EvV K mX0_keep 0 62 [(0, .ref 5), (2, .int x2), (3, .int x3)] [] G Q := by
  refine E_aload_n 0 dX0_keep_62 rfl rfl rfl ?_
  refine E_gR (j := 9) fG_X0_26 rfl (lo_5 hL) (lr_5_4 hL) (by decide) dX0_keep_63 ?_
  refine E_iload_n 1 dX0_keep_66 rfl rfl ?_
  refine E_iload_n 2 dX0_keep_67 rfl rfl ?_
  obtain ⟨qq1, hB⟩ := hB
  refine E_sI (p := Int32.toNatClampNeg x2) (la_9 hL) qq1 rfl dX0_keep_68 ?_
  exact E_vret rfl dX0_keep_69 ⟨rfl, rfl, hB⟩

set_option maxRecDepth 20000 in
set_option maxHeartbeats 2000000 in
theorem kX0_fill_0 {K : KT} {G : St} {Q : St → Prop} {h1 : Nat} {t2 : Nat} {x3 : Int32} (hL : Lay G.2.2) (hh1 : h1 = 39 ∨ h1 = 49) (ht2 : t2 = 59 ∨ t2 = 62)
    (hB : EvV K mJ7_fill_53178 0 0 [(0, .ref 10), (1, .int 0)] [] G (fun G1 => EvV K mX0_fill 4 11 [(0, .ref 5), (1, .ref h1), (2, .ref t2), (3, .int x3), (4, .int 0)] [] G1 Q)) :
    EvV K mX0_fill 4 0 [(0, .ref 5), (1, .ref h1), (2, .ref t2), (3, .int x3)] [] G Q := by
  refine E_aload_n 0 dX0_fill_0 rfl rfl rfl ?_
  refine E_gR (j := 10) fG_X0_29 rfl (lo_5 hL) (lr_5_5 hL) (by decide) dX0_fill_1 ?_
  refine E_iconst (v := 0) dX0_fill_4 (by decide) ?_
  refine E_callS (as := [.ref 10, .int 0]) (st := []) cm_J7_fill_53178 cS_X0_32 rfl rfl (by decide) (Nat.le_of_ble_eq_true rfl) (Nat.le_of_ble_eq_true rfl) dX0_fill_5 hB (fun r G1 hr => ?_)
  obtain ⟨rfl, hE1, hB⟩ := hr
  have hL1 : Lay G1.2.2 := by rw [hE1]; exact hL
  have hE1 : G1.2.2 = G.2.2 := hE1
  show Ev K mX0_fill 4 8 [(0, .ref 5), (1, .ref h1), (2, .ref t2), (3, .int x3)] [] G1 _
  refine E_iconst (v := 0) dX0_fill_8 (by decide) ?_
  refine E_istore (lv' := [(0, .ref 5), (1, .ref h1), (2, .ref t2), (3, .int x3), (4, .int 0)]) dX0_fill_9 (by decide) rfl ?_
  exact EvV.tr hB hE1

set_option maxRecDepth 20000 in
set_option maxHeartbeats 2000000 in
theorem kX0_fill_11 {K : KT} {G : St} {Q : St → Prop} {h1 : Nat} {t2 : Nat} {x3 : Int32} {x4 : Int32} (hL : Lay G.2.2) (hh1 : h1 = 39 ∨ h1 = 49) (ht2 : t2 = 59 ∨ t2 = 62)
    (hB : (((sI G t2 2) ≤ x4 → Q G) ∧ (¬ (sI G t2 2) ≤ x4 → vp_in x4 4 ∧ vp_in x4 4 ∧ EvV K mX0_fill 4 39 [(0, .ref 5), (1, .ref h1), (2, .ref t2), (3, .int x3), (4, .int x4), (5, .int 0)] [] (uI (uI G 8 (Int32.toNatClampNeg x4) 0) 9 (Int32.toNatClampNeg x4) (-1)) Q))) :
    EvV K mX0_fill 4 11 [(0, .ref 5), (1, .ref h1), (2, .ref t2), (3, .int x3), (4, .int x4)] [] G Q := by
  refine E_iload 4 dX0_fill_11 rfl ?_
  refine E_aload_n 2 dX0_fill_13 rfl rfl rfl ?_
  refine E_gI (v := sI G t2 2) fG_X0_38 rfl (ltO hL ht2) rfl dX0_fill_14 ?_
  refine E_icmp_ge (tgt := 117) dX0_fill_17 (by decide) (fun c => ?_) (fun c => ?_)
  · have hB := hB.1 c
    exact E_vret rfl dX0_fill_117 ⟨rfl, rfl, hB⟩
  · have hB := hB.2 c
    refine E_aload_n 0 dX0_fill_20 rfl rfl rfl ?_
    refine E_gR (j := 8) fG_X0_23 rfl (lo_5 hL) (lr_5_3 hL) (by decide) dX0_fill_21 ?_
    refine E_iload 4 dX0_fill_24 rfl ?_
    refine E_iconst (v := 0) dX0_fill_26 (by decide) ?_
    obtain ⟨qq1, hB⟩ := hB
    refine E_sI (p := Int32.toNatClampNeg x4) (la_8 hL) qq1 rfl dX0_fill_27 ?_
    refine E_aload_n 0 dX0_fill_28 rfl rfl rfl ?_
    refine E_gR (j := 9) fG_X0_26 rfl (lo_5 hL) (lr_5_4 hL) (by decide) dX0_fill_29 ?_
    refine E_iload 4 dX0_fill_32 rfl ?_
    refine E_iconst (v := (-1)) dX0_fill_34 (by decide) ?_
    obtain ⟨qq2, hB⟩ := hB
    refine E_sI (p := Int32.toNatClampNeg x4) (la_9 hL) qq2 rfl dX0_fill_35 ?_
    refine E_iconst (v := 0) dX0_fill_36 (by decide) ?_
    refine E_istore (lv' := [(0, .ref 5), (1, .ref h1), (2, .ref t2), (3, .int x3), (4, .int x4), (5, .int 0)]) dX0_fill_37 (by decide) rfl ?_
    exact EvV.tr hB rfl

set_option maxRecDepth 20000 in
set_option maxHeartbeats 2000000 in
theorem kX0_fill_39 {K : KT} {G : St} {Q : St → Prop} {h1 : Nat} {t2 : Nat} {x3 : Int32} {x4 : Int32} {x5 : Int32} (hL : Lay G.2.2) (hh1 : h1 = 39 ∨ h1 = 49) (ht2 : t2 = 59 ∨ t2 = 62)
    (hB : (((sI G h1 10) ≤ x5 → EvV K mX0_fill 4 11 [(0, .ref 5), (1, .ref h1), (2, .ref t2), (3, .int x3), (4, .int (x4 + 1))] [] G Q) ∧ (¬ (sI G h1 10) ≤ x5 → ((((x3 >>> (x5 &&& 31)) &&& 1) = 0 → EvV K mX0_fill 4 62 [(0, .ref 5), (1, .ref h1), (2, .ref t2), (3, .int x3), (4, .int x4), (5, .int x5)] [.int 0] G Q) ∧ (¬ ((x3 >>> (x5 &&& 31)) &&& 1) = 0 → EvV K mX0_fill 4 62 [(0, .ref 5), (1, .ref h1), (2, .ref t2), (3, .int x3), (4, .int x4), (5, .int x5)] [.int 1] G Q))))) :
    EvV K mX0_fill 4 39 [(0, .ref 5), (1, .ref h1), (2, .ref t2), (3, .int x3), (4, .int x4), (5, .int x5)] [] G Q := by
  refine E_iload 5 dX0_fill_39 rfl ?_
  refine E_aload_n 1 dX0_fill_41 rfl rfl rfl ?_
  refine E_gI (v := sI G h1 10) fG_X0_42 rfl (lhO hL hh1) rfl dX0_fill_42 ?_
  refine E_icmp_ge (tgt := 111) dX0_fill_45 (by decide) (fun c => ?_) (fun c => ?_)
  · have hB := hB.1 c
    refine E_iinc (v := x4 + 1) (lv' := [(0, .ref 5), (1, .ref h1), (2, .ref t2), (3, .int x3), (4, .int (x4 + 1)), (5, .int x5)]) 4 dX0_fill_111 rfl rfl (by decide) rfl ?_
    refine E_goto (tgt := 11) dX0_fill_114 (by decide) ?_
    refine E_sub (lv' := [(0, .ref 5), (1, .ref h1), (2, .ref t2), (3, .int x3), (4, .int (x4 + 1))]) [0, 1, 2, 3, 4] rfl ?_
    exact EvV.tr hB rfl
  · have hB := hB.2 c
    refine E_iload_n 3 dX0_fill_48 rfl rfl ?_
    refine E_iload 5 dX0_fill_49 rfl ?_
    refine E_ishr dX0_fill_51 ?_
    refine E_iconst (v := 1) dX0_fill_52 (by decide) ?_
    refine E_iand dX0_fill_53 ?_
    refine E_if_eq (tgt := 61) dX0_fill_54 (by decide) (fun c => ?_) (fun c => ?_)
    · have hB := hB.1 c
      refine E_iconst (v := 0) dX0_fill_61 (by decide) ?_
      exact EvV.tr hB rfl
    · have hB := hB.2 c
      refine E_iconst (v := 1) dX0_fill_57 (by decide) ?_
      refine E_goto (tgt := 62) dX0_fill_58 (by decide) ?_
      exact EvV.tr hB rfl

set_option maxRecDepth 20000 in
set_option maxHeartbeats 2000000 in
theorem kX0_fill_62 {K : KT} {G : St} {Q : St → Prop} {h1 : Nat} {t2 : Nat} {x3 : Int32} {x4 : Int32} {x5 : Int32} {xs0 : Int32} (hL : Lay G.2.2) (hh1 : h1 = 39 ∨ h1 = 49) (ht2 : t2 = 59 ∨ t2 = 62)
    (hB : ((xs0 = 0 → EvV K mX0_fill 4 93 [(0, .ref 5), (1, .ref h1), (2, .ref t2), (3, .int x3), (4, .int x4), (5, .int x5)] [.int (-1)] G Q) ∧ (¬ xs0 = 0 → vp_in x4 4 ∧ vp_in x4 4 ∧ EvI K mX0_priceOf 3 0 [(0, .ref h1), (1, .int x5), (2, .int (sI G (t2 + 1) (Int32.toNatClampNeg x4))), (3, .long (sL G (t2 + 2) (Int32.toNatClampNeg x4)))] [] G (fun r3 G3 => EvV K mX0_fill 4 93 [(0, .ref 5), (1, .ref h1), (2, .ref t2), (3, .int x3), (4, .int x4), (5, .int x5)] [.int r3] G3 Q)))) :
    EvV K mX0_fill 4 62 [(0, .ref 5), (1, .ref h1), (2, .ref t2), (3, .int x3), (4, .int x4), (5, .int x5)] [.int xs0] G Q := by
  refine E_istore (lv' := [(0, .ref 5), (1, .ref h1), (2, .ref t2), (3, .int x3), (4, .int x4), (5, .int x5), (6, .int xs0)]) dX0_fill_62 (by decide) rfl ?_
  refine E_iload 6 dX0_fill_64 rfl ?_
  refine E_if_eq (tgt := 92) dX0_fill_66 (by decide) (fun c => ?_) (fun c => ?_)
  · have hB := hB.1 c
    refine E_iconst (v := (-1)) dX0_fill_92 (by decide) ?_
    refine E_sub (lv' := [(0, .ref 5), (1, .ref h1), (2, .ref t2), (3, .int x3), (4, .int x4), (5, .int x5)]) [0, 1, 2, 3, 4, 5] rfl ?_
    exact EvV.tr hB rfl
  · have hB := hB.2 c
    refine E_aload_n 1 dX0_fill_69 rfl rfl rfl ?_
    refine E_iload 5 dX0_fill_70 rfl ?_
    refine E_aload_n 2 dX0_fill_72 rfl rfl rfl ?_
    refine E_gR (j := t2 + 1) fG_X0_45 rfl (ltO hL ht2) (ltR0 hL ht2) (Nat.succ_pos _) dX0_fill_73 ?_
    refine E_iload 4 dX0_fill_76 rfl ?_
    obtain ⟨qq1, hB⟩ := hB
    refine E_aI (p := Int32.toNatClampNeg x4) (v := sI G (t2 + 1) (Int32.toNatClampNeg x4)) (ltA0 hL ht2) qq1 rfl rfl dX0_fill_78 ?_
    refine E_aload_n 2 dX0_fill_79 rfl rfl rfl ?_
    refine E_gR (j := t2 + 2) fG_X0_48 rfl (ltO hL ht2) (ltR1 hL ht2) (Nat.succ_pos _) dX0_fill_80 ?_
    refine E_iload 4 dX0_fill_83 rfl ?_
    obtain ⟨qq2, hB⟩ := hB
    refine E_aL (p := Int32.toNatClampNeg x4) (v := sL G (t2 + 2) (Int32.toNatClampNeg x4)) (ltA1 hL ht2) qq2 rfl rfl dX0_fill_85 ?_
    refine E_callS (as := [.ref h1, .int x5, .int (sI G (t2 + 1) (Int32.toNatClampNeg x4)), .long (sL G (t2 + 2) (Int32.toNatClampNeg x4))]) (st := []) cm_X0_priceOf cS_X0_51 rfl rfl (by decide) (Nat.le_of_ble_eq_true rfl) (Nat.le_of_ble_eq_true rfl) dX0_fill_86 hB (fun r G3 hr => ?_)
    obtain ⟨r3, rfl, hE3, hB⟩ := hr
    have hL3 : Lay G3.2.2 := by rw [hE3]; exact hL
    have hE3 : G3.2.2 = G.2.2 := hE3
    show Ev K mX0_fill 4 89 [(0, .ref 5), (1, .ref h1), (2, .ref t2), (3, .int x3), (4, .int x4), (5, .int x5), (6, .int xs0)] [.int r3] G3 _
    refine E_goto (tgt := 93) dX0_fill_89 (by decide) ?_
    refine E_sub (lv' := [(0, .ref 5), (1, .ref h1), (2, .ref t2), (3, .int x3), (4, .int x4), (5, .int x5)]) [0, 1, 2, 3, 4, 5] rfl ?_
    exact EvV.tr hB hE3

set_option maxRecDepth 20000 in
set_option maxHeartbeats 2000000 in
theorem kX0_fill_93 {K : KT} {G : St} {Q : St → Prop} {h1 : Nat} {t2 : Nat} {x3 : Int32} {x4 : Int32} {x5 : Int32} {xs0 : Int32} (hL : Lay G.2.2) (hh1 : h1 = 39 ∨ h1 = 49) (ht2 : t2 = 59 ∨ t2 = 62)
    (hB : EvV K mX0_keep 0 0 [(0, .ref 5), (1, .int x5), (2, .int x4), (3, .int xs0)] [] G (fun G1 => EvV K mX0_fill 4 39 [(0, .ref 5), (1, .ref h1), (2, .ref t2), (3, .int x3), (4, .int x4), (5, .int (x5 + 1))] [] G1 Q)) :
    EvV K mX0_fill 4 93 [(0, .ref 5), (1, .ref h1), (2, .ref t2), (3, .int x3), (4, .int x4), (5, .int x5)] [.int xs0] G Q := by
  refine E_istore (lv' := [(0, .ref 5), (1, .ref h1), (2, .ref t2), (3, .int x3), (4, .int x4), (5, .int x5), (7, .int xs0)]) dX0_fill_93 (by decide) rfl ?_
  refine E_aload_n 0 dX0_fill_95 rfl rfl rfl ?_
  refine E_iload 5 dX0_fill_96 rfl ?_
  refine E_iload 4 dX0_fill_98 rfl ?_
  refine E_iload 6 dX0_fill_100 rfl ?_
  refine E_cV (ci := 0) (as := [.int x5, .int x4, .int xs0]) (st := []) cm_X0_keep cV_X0_55 ⟨_, _, rfl⟩ (by decide) (lo_5 hL) rfl rfl (by decide) (Nat.le_of_ble_eq_true rfl) (Nat.le_of_ble_eq_true rfl) dX0_fill_102 hB (fun r G1 hr => ?_)
  obtain ⟨rfl, hE1, hB⟩ := hr
  have hL1 : Lay G1.2.2 := by rw [hE1]; exact hL
  have hE1 : G1.2.2 = G.2.2 := hE1
  show Ev K mX0_fill 4 105 [(0, .ref 5), (1, .ref h1), (2, .ref t2), (3, .int x3), (4, .int x4), (5, .int x5), (7, .int xs0)] [] G1 _
  refine E_iinc (v := x5 + 1) (lv' := [(0, .ref 5), (1, .ref h1), (2, .ref t2), (3, .int x3), (4, .int x4), (5, .int (x5 + 1)), (7, .int xs0)]) 5 dX0_fill_105 rfl rfl (by decide) rfl ?_
  refine E_goto (tgt := 39) dX0_fill_108 (by decide) ?_
  refine E_sub (lv' := [(0, .ref 5), (1, .ref h1), (2, .ref t2), (3, .int x3), (4, .int x4), (5, .int (x5 + 1))]) [0, 1, 2, 3, 4, 5] rfl ?_
  exact EvV.tr hB hE1

set_option maxRecDepth 20000 in
set_option maxHeartbeats 2000000 in
theorem kX0_priceAt_0 {K : KT} {G : St} {Q : Int32 → St → Prop} {x1 : Int32} {x2 : Int32} (hL : Lay G.2.2) 
    (hB : ((x1 < 0 → EvI K mX0_priceAt 0 23 [(0, .ref 5), (1, .int x1), (2, .int x2)] [] G Q) ∧ (¬ x1 < 0 → ((30 ≤ x1 → EvI K mX0_priceAt 0 23 [(0, .ref 5), (1, .int x1), (2, .int x2)] [] G Q) ∧ (¬ 30 ≤ x1 → ((x2 < 0 → EvI K mX0_priceAt 0 23 [(0, .ref 5), (1, .int x1), (2, .int x2)] [] G Q) ∧ (¬ x2 < 0 → ((4 ≤ x2 → EvI K mX0_priceAt 0 23 [(0, .ref 5), (1, .int x1), (2, .int x2)] [] G Q) ∧ (¬ 4 ≤ x2 → EvI K mX0_priceAt 0 24 [(0, .ref 5), (1, .int x1), (2, .int x2)] [.int 1] G Q))))))))) :
    EvI K mX0_priceAt 0 0 [(0, .ref 5), (1, .int x1), (2, .int x2)] [] G Q := by
  refine E_iload_n 1 dX0_priceAt_0 rfl rfl ?_
  refine E_if_lt (tgt := 23) dX0_priceAt_1 (by decide) (fun c => ?_) (fun c => ?_)
  · have hB := hB.1 c
    exact EvI.tr hB rfl
  · have hB := hB.2 c
    refine E_iload_n 1 dX0_priceAt_4 rfl rfl ?_
    refine E_bipush (v := 30) dX0_priceAt_5 (by decide) ?_
    refine E_icmp_ge (tgt := 23) dX0_priceAt_7 (by decide) (fun c => ?_) (fun c => ?_)
    · have hB := hB.1 c
      exact EvI.tr hB rfl
    · have hB := hB.2 c
      refine E_iload_n 2 dX0_priceAt_10 rfl rfl ?_
      refine E_if_lt (tgt := 23) dX0_priceAt_11 (by decide) (fun c => ?_) (fun c => ?_)
      · have hB := hB.1 c
        exact EvI.tr hB rfl
      · have hB := hB.2 c
        refine E_iload_n 2 dX0_priceAt_14 rfl rfl ?_
        refine E_iconst (v := 4) dX0_priceAt_15 (by decide) ?_
        refine E_icmp_ge (tgt := 23) dX0_priceAt_16 (by decide) (fun c => ?_) (fun c => ?_)
        · have hB := hB.1 c
          exact EvI.tr hB rfl
        · have hB := hB.2 c
          refine E_iconst (v := 1) dX0_priceAt_19 (by decide) ?_
          refine E_goto (tgt := 24) dX0_priceAt_20 (by decide) ?_
          exact EvI.tr hB rfl

set_option maxRecDepth 20000 in
set_option maxHeartbeats 2000000 in
theorem kX0_priceAt_23 {K : KT} {G : St} {Q : Int32 → St → Prop} {x1 : Int32} {x2 : Int32} (hL : Lay G.2.2) 
    (hB : EvI K mX0_priceAt 0 24 [(0, .ref 5), (1, .int x1), (2, .int x2)] [.int 0] G Q) :
    EvI K mX0_priceAt 0 23 [(0, .ref 5), (1, .int x1), (2, .int x2)] [] G Q := by
  refine E_iconst (v := 0) dX0_priceAt_23 (by decide) ?_
  exact EvI.tr hB rfl

set_option maxRecDepth 20000 in
set_option maxHeartbeats 2000000 in
theorem kX0_priceAt_24 {K : KT} {G : St} {Q : Int32 → St → Prop} {x1 : Int32} {x2 : Int32} {xs0 : Int32} (hL : Lay G.2.2) 
    (hB : ((xs0 = 0 → Q (-1) G) ∧ (¬ xs0 = 0 → vp_in ((x2 * 30) + x1) 120 ∧ Q (sI G 6 (Int32.toNatClampNeg ((x2 * 30) + x1))) G))) :
    EvI K mX0_priceAt 0 24 [(0, .ref 5), (1, .int x1), (2, .int x2)] [.int xs0] G Q := by
  refine E_istore_n (lv' := [(0, .ref 5), (1, .int x1), (2, .int x2), (3, .int xs0)]) dX0_priceAt_24 rfl (by decide) rfl ?_
  refine E_iload_n 3 dX0_priceAt_25 rfl rfl ?_
  refine E_if_eq (tgt := 43) dX0_priceAt_26 (by decide) (fun c => ?_) (fun c => ?_)
  · have hB := hB.1 c
    refine E_iconst (v := (-1)) dX0_priceAt_43 (by decide) ?_
    exact E_iret rfl dX0_priceAt_44 ⟨_, rfl, rfl, hB⟩
  · have hB := hB.2 c
    refine E_aload_n 0 dX0_priceAt_29 rfl rfl rfl ?_
    refine E_gR (j := 6) fG_X0_13 rfl (lo_5 hL) (lr_5_0 hL) (by decide) dX0_priceAt_30 ?_
    refine E_iload_n 2 dX0_priceAt_33 rfl rfl ?_
    refine E_bipush (v := 30) dX0_priceAt_34 (by decide) ?_
    refine E_imul dX0_priceAt_36 ?_
    refine E_iload_n 1 dX0_priceAt_37 rfl rfl ?_
    refine E_iadd dX0_priceAt_38 ?_
    obtain ⟨qq1, hB⟩ := hB
    refine E_aI (p := Int32.toNatClampNeg ((x2 * 30) + x1)) (v := sI G 6 (Int32.toNatClampNeg ((x2 * 30) + x1))) (la_6 hL) qq1 rfl rfl dX0_priceAt_39 ?_
    refine E_goto (tgt := 44) dX0_priceAt_40 (by decide) ?_
    exact E_iret rfl dX0_priceAt_44 ⟨_, rfl, rfl, hB⟩

set_option maxRecDepth 20000 in
set_option maxHeartbeats 2000000 in
theorem kX0_holderIn_0 {K : KT} {G : St} {Q : Int32 → St → Prop} {x1 : Int32} {x2 : Int32} (hL : Lay G.2.2) 
    (hB : vp_in x2 4 ∧ EvI K mJ6_bitCount_0f7a4 0 0 [(0, .int (x1 &&& (sI G 8 (Int32.toNatClampNeg x2))))] [] G (fun r2 G2 => EvI K mX0_holderIn 1 22 [(0, .ref 5), (2, .int x2), (3, .int (-1)), (4, .int 0), (5, .int (x1 &&& (sI G 8 (Int32.toNatClampNeg x2)))), (6, .int r2)] [] G2 Q)) :
    EvI K mX0_holderIn 1 0 [(0, .ref 5), (1, .int x1), (2, .int x2)] [] G Q := by
  refine E_iconst (v := (-1)) dX0_holderIn_0 (by decide) ?_
  refine E_istore_n (lv' := [(0, .ref 5), (1, .int x1), (2, .int x2), (3, .int (-1))]) dX0_holderIn_1 rfl (by decide) rfl ?_
  refine E_iconst (v := 0) dX0_holderIn_2 (by decide) ?_
  refine E_istore (lv' := [(0, .ref 5), (1, .int x1), (2, .int x2), (3, .int (-1)), (4, .int 0)]) dX0_holderIn_3 (by decide) rfl ?_
  refine E_iload_n 1 dX0_holderIn_5 rfl rfl ?_
  refine E_aload_n 0 dX0_holderIn_6 rfl rfl rfl ?_
  refine E_gR (j := 8) fG_X0_23 rfl (lo_5 hL) (lr_5_3 hL) (by decide) dX0_holderIn_7 ?_
  refine E_iload_n 2 dX0_holderIn_10 rfl rfl ?_
  obtain ⟨qq1, hB⟩ := hB
  refine E_aI (p := Int32.toNatClampNeg x2) (v := sI G 8 (Int32.toNatClampNeg x2)) (la_8 hL) qq1 rfl rfl dX0_holderIn_11 ?_
  refine E_iand dX0_holderIn_12 ?_
  refine E_istore (lv' := [(0, .ref 5), (1, .int x1), (2, .int x2), (3, .int (-1)), (4, .int 0), (5, .int (x1 &&& (sI G 8 (Int32.toNatClampNeg x2))))]) dX0_holderIn_13 (by decide) rfl ?_
  refine E_iload 5 dX0_holderIn_15 rfl ?_
  refine E_callS (as := [.int (x1 &&& (sI G 8 (Int32.toNatClampNeg x2)))]) (st := []) cm_J6_bitCount_0f7a4 cS_X0_59 rfl rfl (by decide) (Nat.le_of_ble_eq_true rfl) (Nat.le_of_ble_eq_true rfl) dX0_holderIn_17 hB (fun r G2 hr => ?_)
  obtain ⟨r2, rfl, hE2, hB⟩ := hr
  have hL2 : Lay G2.2.2 := by rw [hE2]; exact hL
  have hE2 : G2.2.2 = G.2.2 := hE2
  show Ev K mX0_holderIn 1 20 [(0, .ref 5), (1, .int x1), (2, .int x2), (3, .int (-1)), (4, .int 0), (5, .int (x1 &&& (sI G 8 (Int32.toNatClampNeg x2))))] [.int r2] G2 _
  refine E_istore (lv' := [(0, .ref 5), (1, .int x1), (2, .int x2), (3, .int (-1)), (4, .int 0), (5, .int (x1 &&& (sI G 8 (Int32.toNatClampNeg x2)))), (6, .int r2)]) dX0_holderIn_20 (by decide) rfl ?_
  refine E_sub (lv' := [(0, .ref 5), (2, .int x2), (3, .int (-1)), (4, .int 0), (5, .int (x1 &&& (sI G 8 (Int32.toNatClampNeg x2)))), (6, .int r2)]) [0, 2, 3, 4, 5, 6] rfl ?_
  exact EvI.tr hB hE2

set_option maxRecDepth 20000 in
set_option maxHeartbeats 2000000 in
theorem kX0_holderIn_22 {K : KT} {G : St} {Q : Int32 → St → Prop} {x2 : Int32} {x3 : Int32} {x4 : Int32} {x5 : Int32} {x6 : Int32} (hL : Lay G.2.2) 
    (hB : ((x6 ≤ 0 → Q x3 G) ∧ (¬ x6 ≤ 0 → EvI K mJ6_numberOfTrailingZeros_0f7a4 0 0 [(0, .int x5)] [] G (fun r1 G1 => EvI K mX0_priceAt 0 0 [(0, .ref 5), (1, .int r1), (2, .int x2)] [] G1 (fun r2 G2 => ((x3 = (-1) → EvI K mX0_holderIn 1 71 [(0, .ref 5), (2, .int x2), (3, .int r1), (4, .int r2), (5, .int (x5 &&& (x5 - 1))), (6, .int x6)] [] G2 Q) ∧ (¬ x3 = (-1) → ((x4 ≤ r2 → EvI K mX0_holderIn 1 71 [(0, .ref 5), (2, .int x2), (3, .int x3), (4, .int x4), (5, .int (x5 &&& (x5 - 1))), (6, .int x6)] [] G2 Q) ∧ (¬ x4 ≤ r2 → EvI K mX0_holderIn 1 71 [(0, .ref 5), (2, .int x2), (3, .int r1), (4, .int r2), (5, .int (x5 &&& (x5 - 1))), (6, .int x6)] [] G2 Q))))))))) :
    EvI K mX0_holderIn 1 22 [(0, .ref 5), (2, .int x2), (3, .int x3), (4, .int x4), (5, .int x5), (6, .int x6)] [] G Q := by
  refine E_iload 5 dX0_holderIn_22 rfl ?_
  refine E_if_le (tgt := 77) dX0_holderIn_24 (by decide) (fun c => ?_) (fun c => ?_)
  · have hB := hB.1 c
    refine E_iload_n 2 dX0_holderIn_77 rfl rfl ?_
    exact E_iret rfl dX0_holderIn_78 ⟨_, rfl, rfl, hB⟩
  · have hB := hB.2 c
    refine E_iload 4 dX0_holderIn_27 rfl ?_
    refine E_callS (as := [.int x5]) (st := []) cm_J6_numberOfTrailingZeros_0f7a4 cS_X0_65 rfl rfl (by decide) (Nat.le_of_ble_eq_true rfl) (Nat.le_of_ble_eq_true rfl) dX0_holderIn_29 hB (fun r G1 hr => ?_)
    obtain ⟨r1, rfl, hE1, hB⟩ := hr
    have hL1 : Lay G1.2.2 := by rw [hE1]; exact hL
    have hE1 : G1.2.2 = G.2.2 := hE1
    show Ev K mX0_holderIn 1 32 [(0, .ref 5), (2, .int x2), (3, .int x3), (4, .int x4), (5, .int x5), (6, .int x6)] [.int r1] G1 _
    refine E_istore (lv' := [(0, .ref 5), (2, .int x2), (3, .int x3), (4, .int x4), (5, .int x5), (6, .int x6), (7, .int r1)]) dX0_holderIn_32 (by decide) rfl ?_
    refine E_iload 4 dX0_holderIn_34 rfl ?_
    refine E_iload 4 dX0_holderIn_36 rfl ?_
    refine E_iconst (v := 1) dX0_holderIn_38 (by decide) ?_
    refine E_isub dX0_holderIn_39 ?_
    refine E_iand dX0_holderIn_40 ?_
    refine E_istore (lv' := [(0, .ref 5), (2, .int x2), (3, .int x3), (4, .int x4), (5, .int (x5 &&& (x5 - 1))), (6, .int x6), (7, .int r1)]) dX0_holderIn_41 (by decide) rfl ?_
    refine E_aload_n 0 dX0_holderIn_43 rfl rfl rfl ?_
    refine E_iload 6 dX0_holderIn_44 rfl ?_
    refine E_iload_n 1 dX0_holderIn_46 rfl rfl ?_
    refine E_cV (ci := 0) (as := [.int r1, .int x2]) (st := []) cm_X0_priceAt cV_X0_68 ⟨_, _, rfl⟩ (by decide) (lo_5 hL1) rfl rfl (by decide) (Nat.le_of_ble_eq_true rfl) (Nat.le_of_ble_eq_true rfl) dX0_holderIn_47 hB (fun r G2 hr => ?_)
    obtain ⟨r2, rfl, hE2, hB⟩ := hr
    have hL2 : Lay G2.2.2 := by rw [hE2]; exact hL1
    have hE2 : G2.2.2 = G.2.2 := hE2.trans hE1
    show Ev K mX0_holderIn 1 50 [(0, .ref 5), (2, .int x2), (3, .int x3), (4, .int x4), (5, .int (x5 &&& (x5 - 1))), (6, .int x6), (7, .int r1)] [.int r2] G2 _
    refine E_istore (lv' := [(0, .ref 5), (2, .int x2), (3, .int x3), (4, .int x4), (5, .int (x5 &&& (x5 - 1))), (6, .int x6), (7, .int r1), (8, .int r2)]) dX0_holderIn_50 (by decide) rfl ?_
    refine E_iload_n 2 dX0_holderIn_52 rfl rfl ?_
    refine E_iconst (v := (-1)) dX0_holderIn_53 (by decide) ?_
    refine E_icmp_eq (tgt := 64) dX0_holderIn_54 (by decide) (fun c => ?_) (fun c => ?_)
    · have hB := hB.1 c
      refine E_iload 6 dX0_holderIn_64 rfl ?_
      refine E_istore_n (lv' := [(0, .ref 5), (2, .int x2), (3, .int r1), (4, .int x4), (5, .int (x5 &&& (x5 - 1))), (6, .int x6), (7, .int r1), (8, .int r2)]) dX0_holderIn_66 rfl (by decide) rfl ?_
      refine E_iload 7 dX0_holderIn_67 rfl ?_
      refine E_istore (lv' := [(0, .ref 5), (2, .int x2), (3, .int r1), (4, .int r2), (5, .int (x5 &&& (x5 - 1))), (6, .int x6), (7, .int r1), (8, .int r2)]) dX0_holderIn_69 (by decide) rfl ?_
      refine E_sub (lv' := [(0, .ref 5), (2, .int x2), (3, .int r1), (4, .int r2), (5, .int (x5 &&& (x5 - 1))), (6, .int x6)]) [0, 1, 2, 3, 4, 5] rfl ?_
      exact EvI.tr hB hE2
    · have hB := hB.2 c
      refine E_iload 7 dX0_holderIn_57 rfl ?_
      refine E_iload 3 dX0_holderIn_59 rfl ?_
      refine E_icmp_ge (tgt := 71) dX0_holderIn_61 (by decide) (fun c => ?_) (fun c => ?_)
      · have hB := hB.1 c
        refine E_sub (lv' := [(0, .ref 5), (2, .int x2), (3, .int x3), (4, .int x4), (5, .int (x5 &&& (x5 - 1))), (6, .int x6)]) [0, 1, 2, 3, 4, 5] rfl ?_
        exact EvI.tr hB hE2
      · have hB := hB.2 c
        refine E_iload 6 dX0_holderIn_64 rfl ?_
        refine E_istore_n (lv' := [(0, .ref 5), (2, .int x2), (3, .int r1), (4, .int x4), (5, .int (x5 &&& (x5 - 1))), (6, .int x6), (7, .int r1), (8, .int r2)]) dX0_holderIn_66 rfl (by decide) rfl ?_
        refine E_iload 7 dX0_holderIn_67 rfl ?_
        refine E_istore (lv' := [(0, .ref 5), (2, .int x2), (3, .int r1), (4, .int r2), (5, .int (x5 &&& (x5 - 1))), (6, .int x6), (7, .int r1), (8, .int r2)]) dX0_holderIn_69 (by decide) rfl ?_
        refine E_sub (lv' := [(0, .ref 5), (2, .int x2), (3, .int r1), (4, .int r2), (5, .int (x5 &&& (x5 - 1))), (6, .int x6)]) [0, 1, 2, 3, 4, 5] rfl ?_
        exact EvI.tr hB hE2

set_option maxRecDepth 20000 in
set_option maxHeartbeats 2000000 in
theorem kX0_holderIn_71 {K : KT} {G : St} {Q : Int32 → St → Prop} {x2 : Int32} {x3 : Int32} {x4 : Int32} {x5 : Int32} {x6 : Int32} (hL : Lay G.2.2) 
    (hB : EvI K mX0_holderIn 1 22 [(0, .ref 5), (2, .int x2), (3, .int x3), (4, .int x4), (5, .int x5), (6, .int (x6 + (-1)))] [] G Q) :
    EvI K mX0_holderIn 1 71 [(0, .ref 5), (2, .int x2), (3, .int x3), (4, .int x4), (5, .int x5), (6, .int x6)] [] G Q := by
  refine E_iinc (v := x6 + (-1)) (lv' := [(0, .ref 5), (2, .int x2), (3, .int x3), (4, .int x4), (5, .int x5), (6, .int (x6 + (-1)))]) 5 dX0_holderIn_71 rfl rfl (by decide) rfl ?_
  refine E_goto (tgt := 22) dX0_holderIn_74 (by decide) ?_
  exact EvI.tr hB rfl

set_option maxRecDepth 20000 in
set_option maxHeartbeats 2000000 in
theorem kX0_insertNear_0 {K : KT} {G : St} {Q : St → Prop} {y1 : Int64} (hL : Lay G.2.2) 
    (hB : EvL K mX10_orderOf 1 0 [(0, .long y1)] [] G (fun r1 G1 => EvV K mX0_insertNear 2 8 [(0, .ref 5), (1, .long y1), (3, .long r1), (5, .int 0)] [] G1 Q)) :
    EvV K mX0_insertNear 2 0 [(0, .ref 5), (1, .long y1)] [] G Q := by
  refine E_lload_n 1 dX0_insertNear_0 rfl rfl ?_
  refine E_callS (as := [.long y1]) (st := []) cm_X10_orderOf cS_X0_118 rfl rfl (by decide) (Nat.le_of_ble_eq_true rfl) (Nat.le_of_ble_eq_true rfl) dX0_insertNear_1 hB (fun r G1 hr => ?_)
  obtain ⟨r1, rfl, hE1, hB⟩ := hr
  have hL1 : Lay G1.2.2 := by rw [hE1]; exact hL
  have hE1 : G1.2.2 = G.2.2 := hE1
  show Ev K mX0_insertNear 2 4 [(0, .ref 5), (1, .long y1)] [.long r1] G1 _
  refine E_lstore_n (lv' := [(0, .ref 5), (1, .long y1), (3, .long r1)]) dX0_insertNear_4 rfl (by decide) rfl ?_
  refine E_iconst (v := 0) dX0_insertNear_5 (by decide) ?_
  refine E_istore (lv' := [(0, .ref 5), (1, .long y1), (3, .long r1), (5, .int 0)]) dX0_insertNear_6 (by decide) rfl ?_
  exact EvV.tr hB hE1

set_option maxRecDepth 20000 in
set_option maxHeartbeats 2000000 in
theorem kX0_insertNear_8 {K : KT} {G : St} {Q : St → Prop} {y1 : Int64} {y3 : Int64} {x5 : Int32} (hL : Lay G.2.2) 
    (hB : (((sI G 5 2) ≤ x5 → EvV K mX0_insertNear 2 38 [(0, .ref 5), (1, .long y1), (5, .int x5)] [] G Q) ∧ (¬ (sI G 5 2) ≤ x5 → vp_in x5 120 ∧ EvL K mX10_orderOf 1 0 [(0, .long (sL G 7 (Int32.toNatClampNeg x5)))] [] G (fun r2 G2 => ((¬ r2 < y3 → EvV K mX0_insertNear 2 38 [(0, .ref 5), (1, .long y1), (5, .int x5)] [] G2 Q) ∧ (r2 < y3 → EvV K mX0_insertNear 2 8 [(0, .ref 5), (1, .long y1), (3, .long y3), (5, .int (x5 + 1))] [] G2 Q)))))) :
    EvV K mX0_insertNear 2 8 [(0, .ref 5), (1, .long y1), (3, .long y3), (5, .int x5)] [] G Q := by
  refine E_iload 3 dX0_insertNear_8 rfl ?_
  refine E_aload_n 0 dX0_insertNear_10 rfl rfl rfl ?_
  refine E_gI (v := sI G 5 2) fG_X0_111 rfl (lo_5 hL) rfl dX0_insertNear_11 ?_
  refine E_icmp_ge (tgt := 38) dX0_insertNear_14 (by decide) (fun c => ?_) (fun c => ?_)
  · have hB := hB.1 c
    refine E_sub (lv' := [(0, .ref 5), (1, .long y1), (5, .int x5)]) [0, 1, 3] rfl ?_
    exact EvV.tr hB rfl
  · have hB := hB.2 c
    refine E_aload_n 0 dX0_insertNear_17 rfl rfl rfl ?_
    refine E_gR (j := 7) fG_X0_19 rfl (lo_5 hL) (lr_5_1 hL) (by decide) dX0_insertNear_18 ?_
    refine E_iload 3 dX0_insertNear_21 rfl ?_
    obtain ⟨qq1, hB⟩ := hB
    refine E_aL (p := Int32.toNatClampNeg x5) (v := sL G 7 (Int32.toNatClampNeg x5)) (la_7 hL) qq1 rfl rfl dX0_insertNear_23 ?_
    refine E_callS (as := [.long (sL G 7 (Int32.toNatClampNeg x5))]) (st := []) cm_X10_orderOf cS_X0_118 rfl rfl (by decide) (Nat.le_of_ble_eq_true rfl) (Nat.le_of_ble_eq_true rfl) dX0_insertNear_24 hB (fun r G2 hr => ?_)
    obtain ⟨r2, rfl, hE2, hB⟩ := hr
    have hL2 : Lay G2.2.2 := by rw [hE2]; exact hL
    have hE2 : G2.2.2 = G.2.2 := hE2
    show Ev K mX0_insertNear 2 27 [(0, .ref 5), (1, .long y1), (3, .long y3), (5, .int x5)] [.long r2] G2 _
    refine E_lload_n 2 dX0_insertNear_27 rfl rfl ?_
    refine E_lcmp dX0_insertNear_28 ?_
    refine E_if_ge (tgt := 38) dX0_insertNear_29 (by decide) (fun c => ?_) (fun c => ?_)
    · have hB := hB.1 ((fun q => absurd ((lgc_lt r2 y3).mpr q) (Int32.not_lt.mpr c)))
      refine E_sub (lv' := [(0, .ref 5), (1, .long y1), (5, .int x5)]) [0, 1, 3] rfl ?_
      exact EvV.tr hB hE2
    · have hB := hB.2 ((lgc_lt r2 y3).mp (Int32.not_le.mp c))
      refine E_iinc (v := x5 + 1) (lv' := [(0, .ref 5), (1, .long y1), (3, .long y3), (5, .int (x5 + 1))]) 3 dX0_insertNear_32 rfl rfl (by decide) rfl ?_
      refine E_goto (tgt := 8) dX0_insertNear_35 (by decide) ?_
      exact EvV.tr hB hE2

set_option maxRecDepth 20000 in
set_option maxHeartbeats 2000000 in
theorem kX0_insertNear_38 {K : KT} {G : St} {Q : St → Prop} {y1 : Int64} {x5 : Int32} (hL : Lay G.2.2) 
    (hB : (((sI G 5 2) ≤ x5 → EvV K mX0_insertNear 2 63 [(0, .ref 5), (1, .long y1), (5, .int x5)] [] G Q) ∧ (¬ (sI G 5 2) ≤ x5 → vp_in x5 120 ∧ ((¬ (sL G 7 (Int32.toNatClampNeg x5)) = y1 → EvV K mX0_insertNear 2 63 [(0, .ref 5), (1, .long y1), (5, .int x5)] [] G Q) ∧ ((sL G 7 (Int32.toNatClampNeg x5)) = y1 → EvV K mX0_insertNear 2 64 [(0, .ref 5), (1, .long y1), (5, .int x5)] [.int 1] G Q))))) :
    EvV K mX0_insertNear 2 38 [(0, .ref 5), (1, .long y1), (5, .int x5)] [] G Q := by
  refine E_iload 2 dX0_insertNear_38 rfl ?_
  refine E_aload_n 0 dX0_insertNear_40 rfl rfl rfl ?_
  refine E_gI (v := sI G 5 2) fG_X0_111 rfl (lo_5 hL) rfl dX0_insertNear_41 ?_
  refine E_icmp_ge (tgt := 63) dX0_insertNear_44 (by decide) (fun c => ?_) (fun c => ?_)
  · have hB := hB.1 c
    exact EvV.tr hB rfl
  · have hB := hB.2 c
    refine E_aload_n 0 dX0_insertNear_47 rfl rfl rfl ?_
    refine E_gR (j := 7) fG_X0_19 rfl (lo_5 hL) (lr_5_1 hL) (by decide) dX0_insertNear_48 ?_
    refine E_iload 2 dX0_insertNear_51 rfl ?_
    obtain ⟨qq1, hB⟩ := hB
    refine E_aL (p := Int32.toNatClampNeg x5) (v := sL G 7 (Int32.toNatClampNeg x5)) (la_7 hL) qq1 rfl rfl dX0_insertNear_53 ?_
    refine E_lload_n 1 dX0_insertNear_54 rfl rfl ?_
    refine E_lcmp dX0_insertNear_55 ?_
    refine E_if_ne (tgt := 63) dX0_insertNear_56 (by decide) (fun c => ?_) (fun c => ?_)
    · have hB := hB.1 ((fun q => c ((lgc_eq (sL G 7 (Int32.toNatClampNeg x5)) y1).mpr q)))
      exact EvV.tr hB rfl
    · have hB := hB.2 ((lgc_eq (sL G 7 (Int32.toNatClampNeg x5)) y1).mp c)
      refine E_iconst (v := 1) dX0_insertNear_59 (by decide) ?_
      refine E_goto (tgt := 64) dX0_insertNear_60 (by decide) ?_
      exact EvV.tr hB rfl

set_option maxRecDepth 20000 in
set_option maxHeartbeats 2000000 in
theorem kX0_insertNear_63 {K : KT} {G : St} {Q : St → Prop} {y1 : Int64} {x5 : Int32} (hL : Lay G.2.2) 
    (hB : EvV K mX0_insertNear 2 64 [(0, .ref 5), (1, .long y1), (5, .int x5)] [.int 0] G Q) :
    EvV K mX0_insertNear 2 63 [(0, .ref 5), (1, .long y1), (5, .int x5)] [] G Q := by
  refine E_iconst (v := 0) dX0_insertNear_63 (by decide) ?_
  exact EvV.tr hB rfl

set_option maxRecDepth 20000 in
set_option maxHeartbeats 2000000 in
theorem kX0_insertNear_64 {K : KT} {G : St} {Q : St → Prop} {y1 : Int64} {x5 : Int32} {xs0 : Int32} (hL : Lay G.2.2) 
    (hB : ((¬ xs0 = 0 → Q G) ∧ (xs0 = 0 → (((sI G 5 2) < (nI 120) → EvV K mX0_insertNear 2 90 [(0, .ref 5), (1, .long y1), (5, .int x5), (7, .int (sI G 5 2))] [] G Q) ∧ (¬ (sI G 5 2) < (nI 120) → Q G))))) :
    EvV K mX0_insertNear 2 64 [(0, .ref 5), (1, .long y1), (5, .int x5)] [.int xs0] G Q := by
  refine E_istore (lv' := [(0, .ref 5), (1, .long y1), (5, .int x5), (6, .int xs0)]) dX0_insertNear_64 (by decide) rfl ?_
  refine E_iload 3 dX0_insertNear_66 rfl ?_
  refine E_if_ne (tgt := 83) dX0_insertNear_68 (by decide) (fun c => ?_) (fun c => ?_)
  · have hB := hB.1 c
    exact E_vret rfl dX0_insertNear_83 ⟨rfl, rfl, hB⟩
  · have hB := hB.2 c
    refine E_aload_n 0 dX0_insertNear_71 rfl rfl rfl ?_
    refine E_gI (v := sI G 5 2) fG_X0_111 rfl (lo_5 hL) rfl dX0_insertNear_72 ?_
    refine E_aload_n 0 dX0_insertNear_75 rfl rfl rfl ?_
    refine E_gR (j := 7) fG_X0_19 rfl (lo_5 hL) (lr_5_1 hL) (by decide) dX0_insertNear_76 ?_
    refine E_len (v := nI 120) (la_7 hL) (by decide) rfl dX0_insertNear_79 ?_
    refine E_icmp_lt (tgt := 84) dX0_insertNear_80 (by decide) (fun c => ?_) (fun c => ?_)
    · have hB := hB.1 c
      refine E_aload_n 0 dX0_insertNear_84 rfl rfl rfl ?_
      refine E_gI (v := sI G 5 2) fG_X0_111 rfl (lo_5 hL) rfl dX0_insertNear_85 ?_
      refine E_istore (lv' := [(0, .ref 5), (1, .long y1), (5, .int x5), (6, .int xs0), (7, .int (sI G 5 2))]) dX0_insertNear_88 (by decide) rfl ?_
      refine E_sub (lv' := [(0, .ref 5), (1, .long y1), (5, .int x5), (7, .int (sI G 5 2))]) [0, 1, 2, 4] rfl ?_
      exact EvV.tr hB rfl
    · have hB := hB.2 c
      exact E_vret rfl dX0_insertNear_83 ⟨rfl, rfl, hB⟩

set_option maxRecDepth 20000 in
set_option maxHeartbeats 2000000 in
theorem kX0_insertNear_90 {K : KT} {G : St} {Q : St → Prop} {y1 : Int64} {x5 : Int32} {x7 : Int32} (hL : Lay G.2.2) 
    (hB : ((x7 ≤ x5 → vp_in x5 120 ∧ Q (uI (uL G 7 (Int32.toNatClampNeg x5) y1) 5 2 ((sI G 5 2) + 1))) ∧ (¬ x7 ≤ x5 → vp_in (x7 - 1) 120 ∧ vp_in x7 120 ∧ EvV K mX0_insertNear 2 90 [(0, .ref 5), (1, .long y1), (5, .int x5), (7, .int (x7 + (-1)))] [] (uL G 7 (Int32.toNatClampNeg x7) (sL G 7 (Int32.toNatClampNeg (x7 - 1)))) Q))) :
    EvV K mX0_insertNear 2 90 [(0, .ref 5), (1, .long y1), (5, .int x5), (7, .int x7)] [] G Q := by
  refine E_iload 3 dX0_insertNear_90 rfl ?_
  refine E_iload 2 dX0_insertNear_92 rfl ?_
  refine E_icmp_le (tgt := 119) dX0_insertNear_94 (by decide) (fun c => ?_) (fun c => ?_)
  · have hB := hB.1 c
    refine E_aload_n 0 dX0_insertNear_119 rfl rfl rfl ?_
    refine E_gR (j := 7) fG_X0_19 rfl (lo_5 hL) (lr_5_1 hL) (by decide) dX0_insertNear_120 ?_
    refine E_iload 2 dX0_insertNear_123 rfl ?_
    refine E_lload_n 1 dX0_insertNear_125 rfl rfl ?_
    obtain ⟨qq1, hB⟩ := hB
    refine E_sL (p := Int32.toNatClampNeg x5) (la_7 hL) qq1 rfl dX0_insertNear_126 ?_
    refine E_aload_n 0 dX0_insertNear_127 rfl rfl rfl ?_
    refine E_dup dX0_insertNear_128 rfl ?_
    refine E_gI (v := sI G 5 2) fG_X0_111 rfl (lo_5 hL) rfl dX0_insertNear_129 ?_
    refine E_iconst (v := 1) dX0_insertNear_132 (by decide) ?_
    refine E_iadd dX0_insertNear_133 ?_
    refine E_pI fP_X0_111 rfl (lo_5 hL) dX0_insertNear_134 ?_
    exact E_vret rfl dX0_insertNear_137 ⟨rfl, rfl, hB⟩
  · have hB := hB.2 c
    refine E_aload_n 0 dX0_insertNear_97 rfl rfl rfl ?_
    refine E_gR (j := 7) fG_X0_19 rfl (lo_5 hL) (lr_5_1 hL) (by decide) dX0_insertNear_98 ?_
    refine E_iload 3 dX0_insertNear_101 rfl ?_
    refine E_aload_n 0 dX0_insertNear_103 rfl rfl rfl ?_
    refine E_gR (j := 7) fG_X0_19 rfl (lo_5 hL) (lr_5_1 hL) (by decide) dX0_insertNear_104 ?_
    refine E_iload 3 dX0_insertNear_107 rfl ?_
    refine E_iconst (v := 1) dX0_insertNear_109 (by decide) ?_
    refine E_isub dX0_insertNear_110 ?_
    obtain ⟨qq2, hB⟩ := hB
    refine E_aL (p := Int32.toNatClampNeg (x7 - 1)) (v := sL G 7 (Int32.toNatClampNeg (x7 - 1))) (la_7 hL) qq2 rfl rfl dX0_insertNear_111 ?_
    obtain ⟨qq3, hB⟩ := hB
    refine E_sL (p := Int32.toNatClampNeg x7) (la_7 hL) qq3 rfl dX0_insertNear_112 ?_
    refine E_iinc (v := x7 + (-1)) (lv' := [(0, .ref 5), (1, .long y1), (5, .int x5), (7, .int (x7 + (-1)))]) 3 dX0_insertNear_113 rfl rfl (by decide) rfl ?_
    refine E_goto (tgt := 90) dX0_insertNear_116 (by decide) ?_
    exact EvV.tr hB rfl

set_option maxRecDepth 20000 in
set_option maxHeartbeats 2000000 in
theorem kX0_nearWord_0 {K : KT} {G : St} {Q : Int64 → St → Prop} {h1 : Nat} {x2 : Int32} {y3 : Int64} {x5 : Int32} (hL : Lay G.2.2) (hh1 : h1 = 39 ∨ h1 = 49)
    (hB : EvL K mX0_nearWord 3 8 [(0, .ref 5), (1, .ref h1), (2, .int x2), (3, .long y3), (5, .int x5), (6, .int 0)] [] (uI G 5 2 0) Q) :
    EvL K mX0_nearWord 3 0 [(0, .ref 5), (1, .ref h1), (2, .int x2), (3, .long y3), (5, .int x5)] [] G Q := by
  refine E_aload_n 0 dX0_nearWord_0 rfl rfl rfl ?_
  refine E_iconst (v := 0) dX0_nearWord_1 (by decide) ?_
  refine E_pI fP_X0_111 rfl (lo_5 hL) dX0_nearWord_2 ?_
  refine E_iconst (v := 0) dX0_nearWord_5 (by decide) ?_
  refine E_istore (lv' := [(0, .ref 5), (1, .ref h1), (2, .int x2), (3, .long y3), (5, .int x5), (6, .int 0)]) dX0_nearWord_6 (by decide) rfl ?_
  exact EvL.tr hB rfl

set_option maxRecDepth 20000 in
set_option maxHeartbeats 2000000 in
theorem kX0_nearWord_8 {K : KT} {G : St} {Q : Int64 → St → Prop} {h1 : Nat} {x2 : Int32} {y3 : Int64} {x5 : Int32} {x6 : Int32} (hL : Lay G.2.2) (hh1 : h1 = 39 ∨ h1 = 49)
    (hB : (((sI G h1 10) ≤ x6 → ((x5 < 0 → Q (-1) G) ∧ (¬ x5 < 0 → (((sI G 5 2) ≤ x5 → Q (-1) G) ∧ (¬ (sI G 5 2) ≤ x5 → vp_in x5 120 ∧ Q (sL G 7 (Int32.toNatClampNeg x5)) G))))) ∧ (¬ (sI G h1 10) ≤ x6 → EvL K mX0_nearWord 3 20 [(0, .ref 5), (1, .ref h1), (2, .int x2), (3, .long y3), (5, .int x5), (6, .int x6), (7, .int 0)] [] G Q))) :
    EvL K mX0_nearWord 3 8 [(0, .ref 5), (1, .ref h1), (2, .int x2), (3, .long y3), (5, .int x5), (6, .int x6)] [] G Q := by
  refine E_iload 5 dX0_nearWord_8 rfl ?_
  refine E_aload_n 1 dX0_nearWord_10 rfl rfl rfl ?_
  refine E_gI (v := sI G h1 10) fG_X0_42 rfl (lhO hL hh1) rfl dX0_nearWord_11 ?_
  refine E_icmp_ge (tgt := 79) dX0_nearWord_14 (by decide) (fun c => ?_) (fun c => ?_)
  · have hB := hB.1 c
    refine E_iload 4 dX0_nearWord_79 rfl ?_
    refine E_if_lt (tgt := 103) dX0_nearWord_81 (by decide) (fun c => ?_) (fun c => ?_)
    · have hB := hB.1 c
      refine E_ldc2 (v := (-1)) tm_741 dX0_nearWord_103 ?_
      exact E_lret rfl dX0_nearWord_106 ⟨_, rfl, rfl, hB⟩
    · have hB := hB.2 c
      refine E_iload 4 dX0_nearWord_84 rfl ?_
      refine E_aload_n 0 dX0_nearWord_86 rfl rfl rfl ?_
      refine E_gI (v := sI G 5 2) fG_X0_111 rfl (lo_5 hL) rfl dX0_nearWord_87 ?_
      refine E_icmp_ge (tgt := 103) dX0_nearWord_90 (by decide) (fun c => ?_) (fun c => ?_)
      · have hB := hB.1 c
        refine E_ldc2 (v := (-1)) tm_741 dX0_nearWord_103 ?_
        exact E_lret rfl dX0_nearWord_106 ⟨_, rfl, rfl, hB⟩
      · have hB := hB.2 c
        refine E_aload_n 0 dX0_nearWord_93 rfl rfl rfl ?_
        refine E_gR (j := 7) fG_X0_19 rfl (lo_5 hL) (lr_5_1 hL) (by decide) dX0_nearWord_94 ?_
        refine E_iload 4 dX0_nearWord_97 rfl ?_
        obtain ⟨qq1, hB⟩ := hB
        refine E_aL (p := Int32.toNatClampNeg x5) (v := sL G 7 (Int32.toNatClampNeg x5)) (la_7 hL) qq1 rfl rfl dX0_nearWord_99 ?_
        refine E_goto (tgt := 106) dX0_nearWord_100 (by decide) ?_
        exact E_lret rfl dX0_nearWord_106 ⟨_, rfl, rfl, hB⟩
  · have hB := hB.2 c
    refine E_iconst (v := 0) dX0_nearWord_17 (by decide) ?_
    refine E_istore (lv' := [(0, .ref 5), (1, .ref h1), (2, .int x2), (3, .long y3), (5, .int x5), (6, .int x6), (7, .int 0)]) dX0_nearWord_18 (by decide) rfl ?_
    exact EvL.tr hB rfl

set_option maxRecDepth 20000 in
set_option maxHeartbeats 2000000 in
theorem kX0_nearWord_20 {K : KT} {G : St} {Q : Int64 → St → Prop} {h1 : Nat} {x2 : Int32} {y3 : Int64} {x5 : Int32} {x6 : Int32} {x7 : Int32} (hL : Lay G.2.2) (hh1 : h1 = 39 ∨ h1 = 49)
    (hB : ((4 ≤ x7 → EvL K mX0_nearWord 3 73 [(0, .ref 5), (1, .ref h1), (2, .int x2), (3, .long y3), (5, .int x5), (6, .int x6)] [] G Q) ∧ (¬ 4 ≤ x7 → ((((x2 >>> (x6 &&& 31)) &&& 1) = 0 → EvL K mX0_nearWord 3 73 [(0, .ref 5), (1, .ref h1), (2, .int x2), (3, .long y3), (5, .int x5), (6, .int x6)] [] G Q) ∧ (¬ ((x2 >>> (x6 &&& 31)) &&& 1) = 0 → EvL K mX1_wordAt 1 0 [(0, .ref h1), (1, .int x6), (2, .int x7)] [] G (fun r1 G1 => ((r1 = 0 → EvL K mX0_nearWord 3 67 [(0, .ref 5), (1, .ref h1), (2, .int x2), (3, .long y3), (5, .int x5), (6, .int x6), (7, .int x7)] [] G1 Q) ∧ (¬ r1 = 0 → EvI K mX10_isOneLetterApart 1 0 [(0, .long r1), (2, .long y3)] [] G1 (fun r2 G2 => ((r2 = 0 → EvL K mX0_nearWord 3 67 [(0, .ref 5), (1, .ref h1), (2, .int x2), (3, .long y3), (5, .int x5), (6, .int x6), (7, .int x7)] [] G2 Q) ∧ (¬ r2 = 0 → EvV K mX0_insertNear 2 0 [(0, .ref 5), (1, .long r1)] [] G2 (fun G3 => EvL K mX0_nearWord 3 67 [(0, .ref 5), (1, .ref h1), (2, .int x2), (3, .long y3), (5, .int x5), (6, .int x6), (7, .int x7)] [] G3 Q)))))))))))) :
    EvL K mX0_nearWord 3 20 [(0, .ref 5), (1, .ref h1), (2, .int x2), (3, .long y3), (5, .int x5), (6, .int x6), (7, .int x7)] [] G Q := by
  refine E_iload 6 dX0_nearWord_20 rfl ?_
  refine E_iconst (v := 4) dX0_nearWord_22 (by decide) ?_
  refine E_icmp_ge (tgt := 73) dX0_nearWord_23 (by decide) (fun c => ?_) (fun c => ?_)
  · have hB := hB.1 c
    refine E_sub (lv' := [(0, .ref 5), (1, .ref h1), (2, .int x2), (3, .long y3), (5, .int x5), (6, .int x6)]) [0, 1, 2, 3, 4, 5] rfl ?_
    exact EvL.tr hB rfl
  · have hB := hB.2 c
    refine E_iload_n 2 dX0_nearWord_26 rfl rfl ?_
    refine E_iload 5 dX0_nearWord_27 rfl ?_
    refine E_ishr dX0_nearWord_29 ?_
    refine E_iconst (v := 1) dX0_nearWord_30 (by decide) ?_
    refine E_iand dX0_nearWord_31 ?_
    refine E_if_eq (tgt := 73) dX0_nearWord_32 (by decide) (fun c => ?_) (fun c => ?_)
    · have hB := hB.1 c
      refine E_sub (lv' := [(0, .ref 5), (1, .ref h1), (2, .int x2), (3, .long y3), (5, .int x5), (6, .int x6)]) [0, 1, 2, 3, 4, 5] rfl ?_
      exact EvL.tr hB rfl
    · have hB := hB.2 c
      refine E_aload_n 1 dX0_nearWord_35 rfl rfl rfl ?_
      refine E_iload 5 dX0_nearWord_36 rfl ?_
      refine E_iload 6 dX0_nearWord_38 rfl ?_
      refine E_cV (ci := 1) (as := [.int x6, .int x7]) (st := []) cm_X1_wordAt cV_X0_93 ⟨_, _, rfl⟩ (by decide) (lhO hL hh1) rfl rfl (by decide) (Nat.le_of_ble_eq_true rfl) (Nat.le_of_ble_eq_true rfl) dX0_nearWord_40 hB (fun r G1 hr => ?_)
      obtain ⟨r1, rfl, hE1, hB⟩ := hr
      have hL1 : Lay G1.2.2 := by rw [hE1]; exact hL
      have hE1 : G1.2.2 = G.2.2 := hE1
      show Ev K mX0_nearWord 3 43 [(0, .ref 5), (1, .ref h1), (2, .int x2), (3, .long y3), (5, .int x5), (6, .int x6), (7, .int x7)] [.long r1] G1 _
      refine E_lstore (lv' := [(0, .ref 5), (1, .ref h1), (2, .int x2), (3, .long y3), (5, .int x5), (6, .int x6), (7, .int x7), (8, .long r1)]) dX0_nearWord_43 (by decide) rfl ?_
      refine E_lload 7 dX0_nearWord_45 rfl ?_
      refine E_lconst (v := 0) dX0_nearWord_47 (by decide) ?_
      refine E_lcmp dX0_nearWord_48 ?_
      refine E_if_eq (tgt := 67) dX0_nearWord_49 (by decide) (fun c => ?_) (fun c => ?_)
      · have hB := hB.1 ((lgc_eq r1 0).mp c)
        refine E_sub (lv' := [(0, .ref 5), (1, .ref h1), (2, .int x2), (3, .long y3), (5, .int x5), (6, .int x6), (7, .int x7)]) [0, 1, 2, 3, 4, 5, 6] rfl ?_
        exact EvL.tr hB hE1
      · have hB := hB.2 (fun q => c ((lgc_eq r1 0).mpr q))
        refine E_lload 7 dX0_nearWord_52 rfl ?_
        refine E_lload_n 3 dX0_nearWord_54 rfl rfl ?_
        refine E_callS (as := [.long r1, .long y3]) (st := []) cm_X10_isOneLetterApart cS_X0_103 rfl rfl (by decide) (Nat.le_of_ble_eq_true rfl) (Nat.le_of_ble_eq_true rfl) dX0_nearWord_55 hB (fun r G2 hr => ?_)
        obtain ⟨r2, rfl, hE2, hB⟩ := hr
        have hL2 : Lay G2.2.2 := by rw [hE2]; exact hL1
        have hE2 : G2.2.2 = G.2.2 := hE2.trans hE1
        show Ev K mX0_nearWord 3 58 [(0, .ref 5), (1, .ref h1), (2, .int x2), (3, .long y3), (5, .int x5), (6, .int x6), (7, .int x7), (8, .long r1)] [.int r2] G2 _
        refine E_if_eq (tgt := 67) dX0_nearWord_58 (by decide) (fun c => ?_) (fun c => ?_)
        · have hB := hB.1 c
          refine E_sub (lv' := [(0, .ref 5), (1, .ref h1), (2, .int x2), (3, .long y3), (5, .int x5), (6, .int x6), (7, .int x7)]) [0, 1, 2, 3, 4, 5, 6] rfl ?_
          exact EvL.tr hB hE2
        · have hB := hB.2 c
          refine E_aload_n 0 dX0_nearWord_61 rfl rfl rfl ?_
          refine E_lload 7 dX0_nearWord_62 rfl ?_
          refine E_cV (ci := 0) (as := [.long r1]) (st := []) cm_X0_insertNear cV_X0_114 ⟨_, _, rfl⟩ (by decide) (lo_5 hL2) rfl rfl (by decide) (Nat.le_of_ble_eq_true rfl) (Nat.le_of_ble_eq_true rfl) dX0_nearWord_64 hB (fun r G3 hr => ?_)
          obtain ⟨rfl, hE3, hB⟩ := hr
          have hL3 : Lay G3.2.2 := by rw [hE3]; exact hL2
          have hE3 : G3.2.2 = G.2.2 := hE3.trans hE2
          show Ev K mX0_nearWord 3 67 [(0, .ref 5), (1, .ref h1), (2, .int x2), (3, .long y3), (5, .int x5), (6, .int x6), (7, .int x7), (8, .long r1)] [] G3 _
          refine E_sub (lv' := [(0, .ref 5), (1, .ref h1), (2, .int x2), (3, .long y3), (5, .int x5), (6, .int x6), (7, .int x7)]) [0, 1, 2, 3, 4, 5, 6] rfl ?_
          exact EvL.tr hB hE3

set_option maxRecDepth 20000 in
set_option maxHeartbeats 2000000 in
theorem kX0_nearWord_67 {K : KT} {G : St} {Q : Int64 → St → Prop} {h1 : Nat} {x2 : Int32} {y3 : Int64} {x5 : Int32} {x6 : Int32} {x7 : Int32} (hL : Lay G.2.2) (hh1 : h1 = 39 ∨ h1 = 49)
    (hB : EvL K mX0_nearWord 3 20 [(0, .ref 5), (1, .ref h1), (2, .int x2), (3, .long y3), (5, .int x5), (6, .int x6), (7, .int (x7 + 1))] [] G Q) :
    EvL K mX0_nearWord 3 67 [(0, .ref 5), (1, .ref h1), (2, .int x2), (3, .long y3), (5, .int x5), (6, .int x6), (7, .int x7)] [] G Q := by
  refine E_iinc (v := x7 + 1) (lv' := [(0, .ref 5), (1, .ref h1), (2, .int x2), (3, .long y3), (5, .int x5), (6, .int x6), (7, .int (x7 + 1))]) 6 dX0_nearWord_67 rfl rfl (by decide) rfl ?_
  refine E_goto (tgt := 20) dX0_nearWord_70 (by decide) ?_
  exact EvL.tr hB rfl

set_option maxRecDepth 20000 in
set_option maxHeartbeats 2000000 in
theorem kX0_nearWord_73 {K : KT} {G : St} {Q : Int64 → St → Prop} {h1 : Nat} {x2 : Int32} {y3 : Int64} {x5 : Int32} {x6 : Int32} (hL : Lay G.2.2) (hh1 : h1 = 39 ∨ h1 = 49)
    (hB : EvL K mX0_nearWord 3 8 [(0, .ref 5), (1, .ref h1), (2, .int x2), (3, .long y3), (5, .int x5), (6, .int (x6 + 1))] [] G Q) :
    EvL K mX0_nearWord 3 73 [(0, .ref 5), (1, .ref h1), (2, .int x2), (3, .long y3), (5, .int x5), (6, .int x6)] [] G Q := by
  refine E_iinc (v := x6 + 1) (lv' := [(0, .ref 5), (1, .ref h1), (2, .int x2), (3, .long y3), (5, .int x5), (6, .int (x6 + 1))]) 5 dX0_nearWord_73 rfl rfl (by decide) rfl ?_
  refine E_goto (tgt := 8) dX0_nearWord_76 (by decide) ?_
  exact EvL.tr hB rfl

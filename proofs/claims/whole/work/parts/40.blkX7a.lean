set_option maxRecDepth 20000 in
set_option maxHeartbeats 2000000 in
theorem kX7_isLetter_0 {K : KT} {G : St} {Q : Int32 → St → Prop} {x0 : Int32} (hL : Lay G.2.2) 
    (hB : ((x0 < 97 → Q 0 G) ∧ (¬ x0 < 97 → ((122 < x0 → Q 0 G) ∧ (¬ 122 < x0 → Q 1 G))))) :
    EvI K mX7_isLetter 0 0 [(0, .int x0)] [] G Q := by
  refine E_iload_n 0 dX7_isLetter_0 rfl rfl ?_
  refine E_bipush (v := 97) dX7_isLetter_1 (by decide) ?_
  refine E_icmp_lt (tgt := 16) dX7_isLetter_3 (by decide) (fun c => ?_) (fun c => ?_)
  · have hB := hB.1 c
    refine E_iconst (v := 0) dX7_isLetter_16 (by decide) ?_
    exact E_zret rfl (Or.inl rfl) dX7_isLetter_17 ⟨_, rfl, rfl, hB⟩
  · have hB := hB.2 c
    refine E_iload_n 0 dX7_isLetter_6 rfl rfl ?_
    refine E_bipush (v := 122) dX7_isLetter_7 (by decide) ?_
    refine E_icmp_gt (tgt := 16) dX7_isLetter_9 (by decide) (fun c => ?_) (fun c => ?_)
    · have hB := hB.1 c
      refine E_iconst (v := 0) dX7_isLetter_16 (by decide) ?_
      exact E_zret rfl (Or.inl rfl) dX7_isLetter_17 ⟨_, rfl, rfl, hB⟩
    · have hB := hB.2 c
      refine E_iconst (v := 1) dX7_isLetter_12 (by decide) ?_
      refine E_goto (tgt := 17) dX7_isLetter_13 (by decide) ?_
      exact E_zret rfl (Or.inr rfl) dX7_isLetter_17 ⟨_, rfl, rfl, hB⟩

set_option maxRecDepth 20000 in
set_option maxHeartbeats 2000000 in
theorem kX7_takeWord_0 {K : KT} {G : St} {Q : St → Prop}  (hL : Lay G.2.2) 
    (hB : (((sI G 2 2) ≤ (sI G 2 1) → EvV K mX7_takeWord 1 68 [(0, .ref 2)] [] G Q) ∧ (¬ (sI G 2 2) ≤ (sI G 2 1) → vp_in (sI G 2 1) 1000 ∧ EvI K mX7_isLetter 0 0 [(0, .int (sI G 3 (Int32.toNatClampNeg (sI G 2 1))))] [] G (fun r2 G2 => ((r2 = 0 → EvV K mX7_takeWord 1 68 [(0, .ref 2)] [] G2 Q) ∧ (¬ r2 = 0 → vp_in (sI G2 2 1) 1000 ∧ ∀ v4 : Int64, v4 = ((((sL G2 2 5) * 27) + (Int32.toInt64 (sI G2 3 (Int32.toNatClampNeg (sI G2 2 1))))) - 97) + 1 → EvV K mX7_takeWord 1 0 [(0, .ref 2)] [] (uI (uL G2 2 5 v4) 2 1 ((sI G2 2 1) + 1)) Q)))))) :
    EvV K mX7_takeWord 1 0 [(0, .ref 2)] [] G Q := by
  refine E_aload_n 0 dX7_takeWord_0 rfl rfl rfl ?_
  refine E_gI (v := sI G 2 1) fG_X7_17 rfl (lo_2 hL) rfl dX7_takeWord_1 ?_
  refine E_aload_n 0 dX7_takeWord_4 rfl rfl rfl ?_
  refine E_gI (v := sI G 2 2) fG_X7_13 rfl (lo_2 hL) rfl dX7_takeWord_5 ?_
  refine E_icmp_ge (tgt := 68) dX7_takeWord_8 (by decide) (fun c => ?_) (fun c => ?_)
  · have hB := hB.1 c
    exact EvV.tr hB rfl
  · have hB := hB.2 c
    refine E_aload_n 0 dX7_takeWord_11 rfl rfl rfl ?_
    refine E_gR (j := 3) fG_X7_9 rfl (lo_2 hL) (lr_2_0 hL) (by decide) dX7_takeWord_12 ?_
    refine E_aload_n 0 dX7_takeWord_15 rfl rfl rfl ?_
    refine E_gI (v := sI G 2 1) fG_X7_17 rfl (lo_2 hL) rfl dX7_takeWord_16 ?_
    obtain ⟨qq1, hB⟩ := hB
    refine E_aB (p := Int32.toNatClampNeg (sI G 2 1)) (v := sI G 3 (Int32.toNatClampNeg (sI G 2 1))) (la_3 hL) qq1 rfl rfl dX7_takeWord_19 ?_
    refine E_callS (as := [.int (sI G 3 (Int32.toNatClampNeg (sI G 2 1)))]) (st := []) cm_X7_isLetter cS_X7_33 rfl rfl (by decide) (Nat.le_of_ble_eq_true rfl) (Nat.le_of_ble_eq_true rfl) dX7_takeWord_20 hB (fun r G2 hr => ?_)
    obtain ⟨r2, rfl, hE2, hB⟩ := hr
    have hL2 : Lay G2.2.2 := by rw [hE2]; exact hL
    have hE2 : G2.2.2 = G.2.2 := hE2
    show Ev K mX7_takeWord 1 23 [(0, .ref 2)] [.int r2] G2 _
    refine E_if_eq (tgt := 68) dX7_takeWord_23 (by decide) (fun c => ?_) (fun c => ?_)
    · have hB := hB.1 c
      exact EvV.tr hB hE2
    · have hB := hB.2 c
      refine E_aload_n 0 dX7_takeWord_26 rfl rfl rfl ?_
      refine E_aload_n 0 dX7_takeWord_27 rfl rfl rfl ?_
      refine E_gL (v := sL G2 2 5) fG_X7_26 rfl (lo_2 hL2) rfl dX7_takeWord_28 ?_
      refine E_ldc2 (v := 27) tm_468 dX7_takeWord_31 ?_
      refine E_lmul dX7_takeWord_34 ?_
      refine E_aload_n 0 dX7_takeWord_35 rfl rfl rfl ?_
      refine E_gR (j := 3) fG_X7_9 rfl (lo_2 hL2) (lr_2_0 hL2) (by decide) dX7_takeWord_36 ?_
      refine E_aload_n 0 dX7_takeWord_39 rfl rfl rfl ?_
      refine E_gI (v := sI G2 2 1) fG_X7_17 rfl (lo_2 hL2) rfl dX7_takeWord_40 ?_
      obtain ⟨qq3, hB⟩ := hB
      refine E_aB (p := Int32.toNatClampNeg (sI G2 2 1)) (v := sI G2 3 (Int32.toNatClampNeg (sI G2 2 1))) (la_3 hL2) qq3 rfl rfl dX7_takeWord_43 ?_
      refine E_i2l dX7_takeWord_44 rfl ?_
      refine E_ladd dX7_takeWord_45 ?_
      refine E_ldc2 (v := 97) tm_469 dX7_takeWord_46 ?_
      refine E_lsub dX7_takeWord_49 ?_
      refine E_lconst (v := 1) dX7_takeWord_50 (by decide) ?_
      refine E_ladd dX7_takeWord_51 ?_
      refine E_topl (fun v4 ev4 => ?_)
      have hB := hB v4 ev4
      refine E_pL fP_X7_26 rfl (lo_2 hL2) dX7_takeWord_52 ?_
      refine E_aload_n 0 dX7_takeWord_55 rfl rfl rfl ?_
      refine E_dup dX7_takeWord_56 rfl ?_
      refine E_gI (v := sI G2 2 1) fG_X7_17 rfl (lo_2 hL2) rfl dX7_takeWord_57 ?_
      refine E_iconst (v := 1) dX7_takeWord_60 (by decide) ?_
      refine E_iadd dX7_takeWord_61 ?_
      refine E_pI fP_X7_17 rfl (lo_2 hL2) dX7_takeWord_62 ?_
      refine E_goto (tgt := 0) dX7_takeWord_65 (by decide) ?_
      exact EvV.tr hB hE2

set_option maxRecDepth 20000 in
set_option maxHeartbeats 2000000 in
theorem kX7_takeWord_68 {K : KT} {G : St} {Q : St → Prop}  (hL : Lay G.2.2) 
    (hB : ((8 < ((sI G 2 1) - (sI G 2 4)) → Q (uI G 2 3 4)) ∧ (¬ 8 < ((sI G 2 1) - (sI G 2 4)) → Q (uI G 2 3 1)))) :
    EvV K mX7_takeWord 1 68 [(0, .ref 2)] [] G Q := by
  refine E_aload_n 0 dX7_takeWord_68 rfl rfl rfl ?_
  refine E_aload_n 0 dX7_takeWord_69 rfl rfl rfl ?_
  refine E_gI (v := sI G 2 1) fG_X7_17 rfl (lo_2 hL) rfl dX7_takeWord_70 ?_
  refine E_aload_n 0 dX7_takeWord_73 rfl rfl rfl ?_
  refine E_gI (v := sI G 2 4) fG_X7_23 rfl (lo_2 hL) rfl dX7_takeWord_74 ?_
  refine E_isub dX7_takeWord_77 ?_
  refine E_bipush (v := 8) dX7_takeWord_78 (by decide) ?_
  refine E_icmp_gt (tgt := 87) dX7_takeWord_80 (by decide) (fun c => ?_) (fun c => ?_)
  · have hB := hB.1 c
    refine E_iconst (v := 4) dX7_takeWord_87 (by decide) ?_
    refine E_pI fP_X7_30 rfl (lo_2 hL) dX7_takeWord_88 ?_
    exact E_vret rfl dX7_takeWord_91 ⟨rfl, rfl, hB⟩
  · have hB := hB.2 c
    refine E_iconst (v := 1) dX7_takeWord_83 (by decide) ?_
    refine E_goto (tgt := 88) dX7_takeWord_84 (by decide) ?_
    refine E_pI fP_X7_30 rfl (lo_2 hL) dX7_takeWord_88 ?_
    exact E_vret rfl dX7_takeWord_91 ⟨rfl, rfl, hB⟩

set_option maxRecDepth 20000 in
set_option maxHeartbeats 2000000 in
theorem kX7_isDigit_0 {K : KT} {G : St} {Q : Int32 → St → Prop} {x0 : Int32} (hL : Lay G.2.2) 
    (hB : ((x0 < 48 → Q 0 G) ∧ (¬ x0 < 48 → ((57 < x0 → Q 0 G) ∧ (¬ 57 < x0 → Q 1 G))))) :
    EvI K mX7_isDigit 0 0 [(0, .int x0)] [] G Q := by
  refine E_iload_n 0 dX7_isDigit_0 rfl rfl ?_
  refine E_bipush (v := 48) dX7_isDigit_1 (by decide) ?_
  refine E_icmp_lt (tgt := 16) dX7_isDigit_3 (by decide) (fun c => ?_) (fun c => ?_)
  · have hB := hB.1 c
    refine E_iconst (v := 0) dX7_isDigit_16 (by decide) ?_
    exact E_zret rfl (Or.inl rfl) dX7_isDigit_17 ⟨_, rfl, rfl, hB⟩
  · have hB := hB.2 c
    refine E_iload_n 0 dX7_isDigit_6 rfl rfl ?_
    refine E_bipush (v := 57) dX7_isDigit_7 (by decide) ?_
    refine E_icmp_gt (tgt := 16) dX7_isDigit_9 (by decide) (fun c => ?_) (fun c => ?_)
    · have hB := hB.1 c
      refine E_iconst (v := 0) dX7_isDigit_16 (by decide) ?_
      exact E_zret rfl (Or.inl rfl) dX7_isDigit_17 ⟨_, rfl, rfl, hB⟩
    · have hB := hB.2 c
      refine E_iconst (v := 1) dX7_isDigit_12 (by decide) ?_
      refine E_goto (tgt := 17) dX7_isDigit_13 (by decide) ?_
      exact E_zret rfl (Or.inr rfl) dX7_isDigit_17 ⟨_, rfl, rfl, hB⟩

set_option maxRecDepth 20000 in
set_option maxHeartbeats 2000000 in
theorem kX7_takeNumber_0 {K : KT} {G : St} {Q : St → Prop}  (hL : Lay G.2.2) 
    (hB : (((sI G 2 2) ≤ (sI G 2 1) → EvV K mX7_takeNumber 1 66 [(0, .ref 2)] [] G Q) ∧ (¬ (sI G 2 2) ≤ (sI G 2 1) → vp_in (sI G 2 1) 1000 ∧ EvI K mX7_isDigit 0 0 [(0, .int (sI G 3 (Int32.toNatClampNeg (sI G 2 1))))] [] G (fun r2 G2 => ((r2 = 0 → EvV K mX7_takeNumber 1 66 [(0, .ref 2)] [] G2 Q) ∧ (¬ r2 = 0 → vp_in (sI G2 2 1) 1000 ∧ EvV K mX7_takeNumber 1 0 [(0, .ref 2)] [] (uI (uL G2 2 5 ((((sL G2 2 5) * 10) + (Int32.toInt64 (sI G2 3 (Int32.toNatClampNeg (sI G2 2 1))))) - 48)) 2 1 ((sI G2 2 1) + 1)) Q)))))) :
    EvV K mX7_takeNumber 1 0 [(0, .ref 2)] [] G Q := by
  refine E_aload_n 0 dX7_takeNumber_0 rfl rfl rfl ?_
  refine E_gI (v := sI G 2 1) fG_X7_17 rfl (lo_2 hL) rfl dX7_takeNumber_1 ?_
  refine E_aload_n 0 dX7_takeNumber_4 rfl rfl rfl ?_
  refine E_gI (v := sI G 2 2) fG_X7_13 rfl (lo_2 hL) rfl dX7_takeNumber_5 ?_
  refine E_icmp_ge (tgt := 66) dX7_takeNumber_8 (by decide) (fun c => ?_) (fun c => ?_)
  · have hB := hB.1 c
    exact EvV.tr hB rfl
  · have hB := hB.2 c
    refine E_aload_n 0 dX7_takeNumber_11 rfl rfl rfl ?_
    refine E_gR (j := 3) fG_X7_9 rfl (lo_2 hL) (lr_2_0 hL) (by decide) dX7_takeNumber_12 ?_
    refine E_aload_n 0 dX7_takeNumber_15 rfl rfl rfl ?_
    refine E_gI (v := sI G 2 1) fG_X7_17 rfl (lo_2 hL) rfl dX7_takeNumber_16 ?_
    obtain ⟨qq1, hB⟩ := hB
    refine E_aB (p := Int32.toNatClampNeg (sI G 2 1)) (v := sI G 3 (Int32.toNatClampNeg (sI G 2 1))) (la_3 hL) qq1 rfl rfl dX7_takeNumber_19 ?_
    refine E_callS (as := [.int (sI G 3 (Int32.toNatClampNeg (sI G 2 1)))]) (st := []) cm_X7_isDigit cS_X7_40 rfl rfl (by decide) (Nat.le_of_ble_eq_true rfl) (Nat.le_of_ble_eq_true rfl) dX7_takeNumber_20 hB (fun r G2 hr => ?_)
    obtain ⟨r2, rfl, hE2, hB⟩ := hr
    have hL2 : Lay G2.2.2 := by rw [hE2]; exact hL
    have hE2 : G2.2.2 = G.2.2 := hE2
    show Ev K mX7_takeNumber 1 23 [(0, .ref 2)] [.int r2] G2 _
    refine E_if_eq (tgt := 66) dX7_takeNumber_23 (by decide) (fun c => ?_) (fun c => ?_)
    · have hB := hB.1 c
      exact EvV.tr hB hE2
    · have hB := hB.2 c
      refine E_aload_n 0 dX7_takeNumber_26 rfl rfl rfl ?_
      refine E_aload_n 0 dX7_takeNumber_27 rfl rfl rfl ?_
      refine E_gL (v := sL G2 2 5) fG_X7_26 rfl (lo_2 hL2) rfl dX7_takeNumber_28 ?_
      refine E_ldc2 (v := 10) tm_477 dX7_takeNumber_31 ?_
      refine E_lmul dX7_takeNumber_34 ?_
      refine E_aload_n 0 dX7_takeNumber_35 rfl rfl rfl ?_
      refine E_gR (j := 3) fG_X7_9 rfl (lo_2 hL2) (lr_2_0 hL2) (by decide) dX7_takeNumber_36 ?_
      refine E_aload_n 0 dX7_takeNumber_39 rfl rfl rfl ?_
      refine E_gI (v := sI G2 2 1) fG_X7_17 rfl (lo_2 hL2) rfl dX7_takeNumber_40 ?_
      obtain ⟨qq3, hB⟩ := hB
      refine E_aB (p := Int32.toNatClampNeg (sI G2 2 1)) (v := sI G2 3 (Int32.toNatClampNeg (sI G2 2 1))) (la_3 hL2) qq3 rfl rfl dX7_takeNumber_43 ?_
      refine E_i2l dX7_takeNumber_44 rfl ?_
      refine E_ladd dX7_takeNumber_45 ?_
      refine E_ldc2 (v := 48) tm_478 dX7_takeNumber_46 ?_
      refine E_lsub dX7_takeNumber_49 ?_
      refine E_pL fP_X7_26 rfl (lo_2 hL2) dX7_takeNumber_50 ?_
      refine E_aload_n 0 dX7_takeNumber_53 rfl rfl rfl ?_
      refine E_dup dX7_takeNumber_54 rfl ?_
      refine E_gI (v := sI G2 2 1) fG_X7_17 rfl (lo_2 hL2) rfl dX7_takeNumber_55 ?_
      refine E_iconst (v := 1) dX7_takeNumber_58 (by decide) ?_
      refine E_iadd dX7_takeNumber_59 ?_
      refine E_pI fP_X7_17 rfl (lo_2 hL2) dX7_takeNumber_60 ?_
      refine E_goto (tgt := 0) dX7_takeNumber_63 (by decide) ?_
      exact EvV.tr hB hE2

set_option maxRecDepth 20000 in
set_option maxHeartbeats 2000000 in
theorem kX7_takeNumber_66 {K : KT} {G : St} {Q : St → Prop}  (hL : Lay G.2.2) 
    (hB : ((4 < ((sI G 2 1) - (sI G 2 4)) → Q (uI G 2 3 4)) ∧ (¬ 4 < ((sI G 2 1) - (sI G 2 4)) → Q (uI G 2 3 2)))) :
    EvV K mX7_takeNumber 1 66 [(0, .ref 2)] [] G Q := by
  refine E_aload_n 0 dX7_takeNumber_66 rfl rfl rfl ?_
  refine E_aload_n 0 dX7_takeNumber_67 rfl rfl rfl ?_
  refine E_gI (v := sI G 2 1) fG_X7_17 rfl (lo_2 hL) rfl dX7_takeNumber_68 ?_
  refine E_aload_n 0 dX7_takeNumber_71 rfl rfl rfl ?_
  refine E_gI (v := sI G 2 4) fG_X7_23 rfl (lo_2 hL) rfl dX7_takeNumber_72 ?_
  refine E_isub dX7_takeNumber_75 ?_
  refine E_iconst (v := 4) dX7_takeNumber_76 (by decide) ?_
  refine E_icmp_gt (tgt := 84) dX7_takeNumber_77 (by decide) (fun c => ?_) (fun c => ?_)
  · have hB := hB.1 c
    refine E_iconst (v := 4) dX7_takeNumber_84 (by decide) ?_
    refine E_pI fP_X7_30 rfl (lo_2 hL) dX7_takeNumber_85 ?_
    exact E_vret rfl dX7_takeNumber_88 ⟨rfl, rfl, hB⟩
  · have hB := hB.2 c
    refine E_iconst (v := 2) dX7_takeNumber_80 (by decide) ?_
    refine E_goto (tgt := 85) dX7_takeNumber_81 (by decide) ?_
    refine E_pI fP_X7_30 rfl (lo_2 hL) dX7_takeNumber_85 ?_
    exact E_vret rfl dX7_takeNumber_88 ⟨rfl, rfl, hB⟩

set_option maxRecDepth 20000 in
set_option maxHeartbeats 2000000 in
theorem kX7_takeSign_0 {K : KT} {G : St} {Q : St → Prop}  (hL : Lay G.2.2) 
    (hB : vp_in (sI G 2 1) 1000 ∧ (((Int32.toInt64 (sI G 3 (Int32.toNatClampNeg (sI G 2 1)))) = 44 → EvV K mX7_takeSign 0 53 [(0, .ref 2)] [.int 3, .ref 2] (uL G 2 5 (Int32.toInt64 (sI G 3 (Int32.toNatClampNeg (sI G 2 1))))) Q) ∧ (¬ (Int32.toInt64 (sI G 3 (Int32.toNatClampNeg (sI G 2 1)))) = 44 → (((Int32.toInt64 (sI G 3 (Int32.toNatClampNeg (sI G 2 1)))) = 58 → EvV K mX7_takeSign 0 53 [(0, .ref 2)] [.int 3, .ref 2] (uL G 2 5 (Int32.toInt64 (sI G 3 (Int32.toNatClampNeg (sI G 2 1))))) Q) ∧ (¬ (Int32.toInt64 (sI G 3 (Int32.toNatClampNeg (sI G 2 1)))) = 58 → ((¬ (Int32.toInt64 (sI G 3 (Int32.toNatClampNeg (sI G 2 1)))) = 59 → EvV K mX7_takeSign 0 53 [(0, .ref 2)] [.int 4, .ref 2] (uL G 2 5 (Int32.toInt64 (sI G 3 (Int32.toNatClampNeg (sI G 2 1))))) Q) ∧ ((Int32.toInt64 (sI G 3 (Int32.toNatClampNeg (sI G 2 1)))) = 59 → EvV K mX7_takeSign 0 53 [(0, .ref 2)] [.int 3, .ref 2] (uL G 2 5 (Int32.toInt64 (sI G 3 (Int32.toNatClampNeg (sI G 2 1))))) Q))))))) :
    EvV K mX7_takeSign 0 0 [(0, .ref 2)] [] G Q := by
  refine E_aload_n 0 dX7_takeSign_0 rfl rfl rfl ?_
  refine E_aload_n 0 dX7_takeSign_1 rfl rfl rfl ?_
  refine E_gR (j := 3) fG_X7_9 rfl (lo_2 hL) (lr_2_0 hL) (by decide) dX7_takeSign_2 ?_
  refine E_aload_n 0 dX7_takeSign_5 rfl rfl rfl ?_
  refine E_gI (v := sI G 2 1) fG_X7_17 rfl (lo_2 hL) rfl dX7_takeSign_6 ?_
  obtain ⟨qq1, hB⟩ := hB
  refine E_aB (p := Int32.toNatClampNeg (sI G 2 1)) (v := sI G 3 (Int32.toNatClampNeg (sI G 2 1))) (la_3 hL) qq1 rfl rfl dX7_takeSign_9 ?_
  refine E_i2l dX7_takeSign_10 rfl ?_
  refine E_pL fP_X7_26 rfl (lo_2 hL) dX7_takeSign_11 ?_
  refine E_aload_n 0 dX7_takeSign_14 rfl rfl rfl ?_
  refine E_aload_n 0 dX7_takeSign_15 rfl rfl rfl ?_
  refine E_gL (v := Int32.toInt64 (sI G 3 (Int32.toNatClampNeg (sI G 2 1)))) fG_X7_26 rfl (lo_2 hL) rfl dX7_takeSign_16 ?_
  refine E_ldc2 (v := 44) tm_483 dX7_takeSign_19 ?_
  refine E_lcmp dX7_takeSign_22 ?_
  refine E_if_eq (tgt := 48) dX7_takeSign_23 (by decide) (fun c => ?_) (fun c => ?_)
  · have hB := hB.1 ((lgc_eq (Int32.toInt64 (sI G 3 (Int32.toNatClampNeg (sI G 2 1)))) 44).mp c)
    refine E_iconst (v := 3) dX7_takeSign_48 (by decide) ?_
    refine E_goto (tgt := 53) dX7_takeSign_49 (by decide) ?_
    exact EvV.tr hB rfl
  · have hB := hB.2 (fun q => c ((lgc_eq (Int32.toInt64 (sI G 3 (Int32.toNatClampNeg (sI G 2 1)))) 44).mpr q))
    refine E_aload_n 0 dX7_takeSign_26 rfl rfl rfl ?_
    refine E_gL (v := Int32.toInt64 (sI G 3 (Int32.toNatClampNeg (sI G 2 1)))) fG_X7_26 rfl (lo_2 hL) rfl dX7_takeSign_27 ?_
    refine E_ldc2 (v := 58) tm_484 dX7_takeSign_30 ?_
    refine E_lcmp dX7_takeSign_33 ?_
    refine E_if_eq (tgt := 48) dX7_takeSign_34 (by decide) (fun c => ?_) (fun c => ?_)
    · have hB := hB.1 ((lgc_eq (Int32.toInt64 (sI G 3 (Int32.toNatClampNeg (sI G 2 1)))) 58).mp c)
      refine E_iconst (v := 3) dX7_takeSign_48 (by decide) ?_
      refine E_goto (tgt := 53) dX7_takeSign_49 (by decide) ?_
      exact EvV.tr hB rfl
    · have hB := hB.2 (fun q => c ((lgc_eq (Int32.toInt64 (sI G 3 (Int32.toNatClampNeg (sI G 2 1)))) 58).mpr q))
      refine E_aload_n 0 dX7_takeSign_37 rfl rfl rfl ?_
      refine E_gL (v := Int32.toInt64 (sI G 3 (Int32.toNatClampNeg (sI G 2 1)))) fG_X7_26 rfl (lo_2 hL) rfl dX7_takeSign_38 ?_
      refine E_ldc2 (v := 59) tm_485 dX7_takeSign_41 ?_
      refine E_lcmp dX7_takeSign_44 ?_
      refine E_if_ne (tgt := 52) dX7_takeSign_45 (by decide) (fun c => ?_) (fun c => ?_)
      · have hB := hB.1 ((fun q => c ((lgc_eq (Int32.toInt64 (sI G 3 (Int32.toNatClampNeg (sI G 2 1)))) 59).mpr q)))
        refine E_iconst (v := 4) dX7_takeSign_52 (by decide) ?_
        exact EvV.tr hB rfl
      · have hB := hB.2 ((lgc_eq (Int32.toInt64 (sI G 3 (Int32.toNatClampNeg (sI G 2 1)))) 59).mp c)
        refine E_iconst (v := 3) dX7_takeSign_48 (by decide) ?_
        refine E_goto (tgt := 53) dX7_takeSign_49 (by decide) ?_
        exact EvV.tr hB rfl

set_option maxRecDepth 20000 in
set_option maxHeartbeats 2000000 in
theorem kX7_takeSign_53 {K : KT} {G : St} {Q : St → Prop} {xs1 : Int32} (hL : Lay G.2.2) 
    (hB : Q (uI (uI G 2 3 xs1) 2 1 ((sI G 2 1) + 1))) :
    EvV K mX7_takeSign 0 53 [(0, .ref 2)] [.int xs1, .ref 2] G Q := by
  refine E_pI fP_X7_30 rfl (lo_2 hL) dX7_takeSign_53 ?_
  refine E_aload_n 0 dX7_takeSign_56 rfl rfl rfl ?_
  refine E_dup dX7_takeSign_57 rfl ?_
  refine E_gI (v := sI G 2 1) fG_X7_17 rfl (lo_2 hL) rfl dX7_takeSign_58 ?_
  refine E_iconst (v := 1) dX7_takeSign_61 (by decide) ?_
  refine E_iadd dX7_takeSign_62 ?_
  refine E_pI fP_X7_17 rfl (lo_2 hL) dX7_takeSign_63 ?_
  exact E_vret rfl dX7_takeSign_66 ⟨rfl, rfl, hB⟩

set_option maxRecDepth 20000 in
set_option maxHeartbeats 2000000 in
theorem kX7_advance_0 {K : KT} {G : St} {Q : St → Prop}  (hL : Lay G.2.2) 
    (hB : (((sI G 2 2) ≤ (sI G 2 1) → EvV K mX7_advance 2 52 [(0, .ref 2)] [] G Q) ∧ (¬ (sI G 2 2) ≤ (sI G 2 1) → vp_in (sI G 2 1) 1000 ∧ (((sI G 3 (Int32.toNatClampNeg (sI G 2 1))) = 32 → EvV K mX7_advance 2 39 [(0, .ref 2)] [] G Q) ∧ (¬ (sI G 3 (Int32.toNatClampNeg (sI G 2 1))) = 32 → vp_in (sI G 2 1) 1000 ∧ ((¬ (sI G 3 (Int32.toNatClampNeg (sI G 2 1))) = 10 → EvV K mX7_advance 2 52 [(0, .ref 2)] [] G Q) ∧ ((sI G 3 (Int32.toNatClampNeg (sI G 2 1))) = 10 → EvV K mX7_advance 2 39 [(0, .ref 2)] [] G Q))))))) :
    EvV K mX7_advance 2 0 [(0, .ref 2)] [] G Q := by
  refine E_aload_n 0 dX7_advance_0 rfl rfl rfl ?_
  refine E_gI (v := sI G 2 1) fG_X7_17 rfl (lo_2 hL) rfl dX7_advance_1 ?_
  refine E_aload_n 0 dX7_advance_4 rfl rfl rfl ?_
  refine E_gI (v := sI G 2 2) fG_X7_13 rfl (lo_2 hL) rfl dX7_advance_5 ?_
  refine E_icmp_ge (tgt := 52) dX7_advance_8 (by decide) (fun c => ?_) (fun c => ?_)
  · have hB := hB.1 c
    exact EvV.tr hB rfl
  · have hB := hB.2 c
    refine E_aload_n 0 dX7_advance_11 rfl rfl rfl ?_
    refine E_gR (j := 3) fG_X7_9 rfl (lo_2 hL) (lr_2_0 hL) (by decide) dX7_advance_12 ?_
    refine E_aload_n 0 dX7_advance_15 rfl rfl rfl ?_
    refine E_gI (v := sI G 2 1) fG_X7_17 rfl (lo_2 hL) rfl dX7_advance_16 ?_
    obtain ⟨qq1, hB⟩ := hB
    refine E_aB (p := Int32.toNatClampNeg (sI G 2 1)) (v := sI G 3 (Int32.toNatClampNeg (sI G 2 1))) (la_3 hL) qq1 rfl rfl dX7_advance_19 ?_
    refine E_bipush (v := 32) dX7_advance_20 (by decide) ?_
    refine E_icmp_eq (tgt := 39) dX7_advance_22 (by decide) (fun c => ?_) (fun c => ?_)
    · have hB := hB.1 c
      exact EvV.tr hB rfl
    · have hB := hB.2 c
      refine E_aload_n 0 dX7_advance_25 rfl rfl rfl ?_
      refine E_gR (j := 3) fG_X7_9 rfl (lo_2 hL) (lr_2_0 hL) (by decide) dX7_advance_26 ?_
      refine E_aload_n 0 dX7_advance_29 rfl rfl rfl ?_
      refine E_gI (v := sI G 2 1) fG_X7_17 rfl (lo_2 hL) rfl dX7_advance_30 ?_
      obtain ⟨qq2, hB⟩ := hB
      refine E_aB (p := Int32.toNatClampNeg (sI G 2 1)) (v := sI G 3 (Int32.toNatClampNeg (sI G 2 1))) (la_3 hL) qq2 rfl rfl dX7_advance_33 ?_
      refine E_bipush (v := 10) dX7_advance_34 (by decide) ?_
      refine E_icmp_ne (tgt := 52) dX7_advance_36 (by decide) (fun c => ?_) (fun c => ?_)
      · have hB := hB.1 c
        exact EvV.tr hB rfl
      · have hB := hB.2 c
        exact EvV.tr hB rfl

set_option maxRecDepth 20000 in
set_option maxHeartbeats 2000000 in
theorem kX7_advance_39 {K : KT} {G : St} {Q : St → Prop}  (hL : Lay G.2.2) 
    (hB : EvV K mX7_advance 2 0 [(0, .ref 2)] [] (uI G 2 1 ((sI G 2 1) + 1)) Q) :
    EvV K mX7_advance 2 39 [(0, .ref 2)] [] G Q := by
  refine E_aload_n 0 dX7_advance_39 rfl rfl rfl ?_
  refine E_dup dX7_advance_40 rfl ?_
  refine E_gI (v := sI G 2 1) fG_X7_17 rfl (lo_2 hL) rfl dX7_advance_41 ?_
  refine E_iconst (v := 1) dX7_advance_44 (by decide) ?_
  refine E_iadd dX7_advance_45 ?_
  refine E_pI fP_X7_17 rfl (lo_2 hL) dX7_advance_46 ?_
  refine E_goto (tgt := 0) dX7_advance_49 (by decide) ?_
  exact EvV.tr hB rfl

set_option maxRecDepth 20000 in
set_option maxHeartbeats 2000000 in
theorem kX7_advance_52 {K : KT} {G : St} {Q : St → Prop}  (hL : Lay G.2.2) 
    (hB : (((sI G 2 1) < (sI G 2 2) → vp_in (sI G 2 1) 1000 ∧ EvI K mX7_isLetter 0 0 [(0, .int (sI G 3 (Int32.toNatClampNeg (sI G 2 1))))] [] (uL (uI G 2 4 (sI G 2 1)) 2 5 0) (fun r2 G2 => ((r2 = 0 → vp_in (sI G2 2 1) 1000 ∧ EvI K mX7_isDigit 0 0 [(0, .int (sI G2 3 (Int32.toNatClampNeg (sI G2 2 1))))] [] G2 (fun r4 G4 => ((r4 = 0 → EvV K mX7_takeSign 0 0 [(0, .ref 2)] [] G4 (fun G5 => Q G5)) ∧ (¬ r4 = 0 → EvV K mX7_takeNumber 1 0 [(0, .ref 2)] [] G4 (fun G6 => Q G6))))) ∧ (¬ r2 = 0 → EvV K mX7_takeWord 1 0 [(0, .ref 2)] [] G2 (fun G7 => Q G7))))) ∧ (¬ (sI G 2 1) < (sI G 2 2) → Q (uI (uL (uI G 2 4 (sI G 2 1)) 2 5 0) 2 3 0)))) :
    EvV K mX7_advance 2 52 [(0, .ref 2)] [] G Q := by
  refine E_aload_n 0 dX7_advance_52 rfl rfl rfl ?_
  refine E_aload_n 0 dX7_advance_53 rfl rfl rfl ?_
  refine E_gI (v := sI G 2 1) fG_X7_17 rfl (lo_2 hL) rfl dX7_advance_54 ?_
  refine E_pI fP_X7_23 rfl (lo_2 hL) dX7_advance_57 ?_
  refine E_aload_n 0 dX7_advance_60 rfl rfl rfl ?_
  refine E_lconst (v := 0) dX7_advance_61 (by decide) ?_
  refine E_pL fP_X7_26 rfl (lo_2 hL) dX7_advance_62 ?_
  refine E_aload_n 0 dX7_advance_65 rfl rfl rfl ?_
  refine E_gI (v := sI G 2 1) fG_X7_17 rfl (lo_2 hL) rfl dX7_advance_66 ?_
  refine E_aload_n 0 dX7_advance_69 rfl rfl rfl ?_
  refine E_gI (v := sI G 2 2) fG_X7_13 rfl (lo_2 hL) rfl dX7_advance_70 ?_
  refine E_icmp_lt (tgt := 84) dX7_advance_73 (by decide) (fun c => ?_) (fun c => ?_)
  · have hB := hB.1 c
    refine E_aload_n 0 dX7_advance_84 rfl rfl rfl ?_
    refine E_gR (j := 3) fG_X7_9 rfl (lo_2 hL) (lr_2_0 hL) (by decide) dX7_advance_85 ?_
    refine E_aload_n 0 dX7_advance_88 rfl rfl rfl ?_
    refine E_gI (v := sI G 2 1) fG_X7_17 rfl (lo_2 hL) rfl dX7_advance_89 ?_
    obtain ⟨qq1, hB⟩ := hB
    refine E_aB (p := Int32.toNatClampNeg (sI G 2 1)) (v := sI G 3 (Int32.toNatClampNeg (sI G 2 1))) (la_3 hL) qq1 rfl rfl dX7_advance_92 ?_
    refine E_callS (as := [.int (sI G 3 (Int32.toNatClampNeg (sI G 2 1)))]) (st := []) cm_X7_isLetter cS_X7_33 rfl rfl (by decide) (Nat.le_of_ble_eq_true rfl) (Nat.le_of_ble_eq_true rfl) dX7_advance_93 hB (fun r G2 hr => ?_)
    obtain ⟨r2, rfl, hE2, hB⟩ := hr
    have hL2 : Lay G2.2.2 := by rw [hE2]; exact hL
    have hE2 : G2.2.2 = G.2.2 := hE2
    show Ev K mX7_advance 2 96 [(0, .ref 2)] [.int r2] G2 _
    refine E_if_eq (tgt := 106) dX7_advance_96 (by decide) (fun c => ?_) (fun c => ?_)
    · have hB := hB.1 c
      refine E_aload_n 0 dX7_advance_106 rfl rfl rfl ?_
      refine E_gR (j := 3) fG_X7_9 rfl (lo_2 hL2) (lr_2_0 hL2) (by decide) dX7_advance_107 ?_
      refine E_aload_n 0 dX7_advance_110 rfl rfl rfl ?_
      refine E_gI (v := sI G2 2 1) fG_X7_17 rfl (lo_2 hL2) rfl dX7_advance_111 ?_
      obtain ⟨qq3, hB⟩ := hB
      refine E_aB (p := Int32.toNatClampNeg (sI G2 2 1)) (v := sI G2 3 (Int32.toNatClampNeg (sI G2 2 1))) (la_3 hL2) qq3 rfl rfl dX7_advance_114 ?_
      refine E_callS (as := [.int (sI G2 3 (Int32.toNatClampNeg (sI G2 2 1)))]) (st := []) cm_X7_isDigit cS_X7_40 rfl rfl (by decide) (Nat.le_of_ble_eq_true rfl) (Nat.le_of_ble_eq_true rfl) dX7_advance_115 hB (fun r G4 hr => ?_)
      obtain ⟨r4, rfl, hE4, hB⟩ := hr
      have hL4 : Lay G4.2.2 := by rw [hE4]; exact hL2
      have hE4 : G4.2.2 = G.2.2 := hE4.trans hE2
      show Ev K mX7_advance 2 118 [(0, .ref 2)] [.int r4] G4 _
      refine E_if_eq (tgt := 128) dX7_advance_118 (by decide) (fun c => ?_) (fun c => ?_)
      · have hB := hB.1 c
        refine E_aload_n 0 dX7_advance_128 rfl rfl rfl ?_
        refine E_cV (ci := 7) (as := []) (st := []) cm_X7_takeSign cV_X7_46 ⟨_, _, rfl⟩ (by decide) (lo_2 hL4) rfl rfl (by decide) (Nat.le_of_ble_eq_true rfl) (Nat.le_of_ble_eq_true rfl) dX7_advance_129 hB (fun r G5 hr => ?_)
        obtain ⟨rfl, hE5, hB⟩ := hr
        have hL5 : Lay G5.2.2 := by rw [hE5]; exact hL4
        have hE5 : G5.2.2 = G.2.2 := hE5.trans hE4
        show Ev K mX7_advance 2 132 [(0, .ref 2)] [] G5 _
        exact E_vret rfl dX7_advance_132 ⟨rfl, hE5, hB⟩
      · have hB := hB.2 c
        refine E_aload_n 0 dX7_advance_121 rfl rfl rfl ?_
        refine E_cV (ci := 7) (as := []) (st := []) cm_X7_takeNumber cV_X7_43 ⟨_, _, rfl⟩ (by decide) (lo_2 hL4) rfl rfl (by decide) (Nat.le_of_ble_eq_true rfl) (Nat.le_of_ble_eq_true rfl) dX7_advance_122 hB (fun r G6 hr => ?_)
        obtain ⟨rfl, hE6, hB⟩ := hr
        have hL6 : Lay G6.2.2 := by rw [hE6]; exact hL4
        have hE6 : G6.2.2 = G.2.2 := hE6.trans hE4
        show Ev K mX7_advance 2 125 [(0, .ref 2)] [] G6 _
        refine E_goto (tgt := 132) dX7_advance_125 (by decide) ?_
        exact E_vret rfl dX7_advance_132 ⟨rfl, hE6, hB⟩
    · have hB := hB.2 c
      refine E_aload_n 0 dX7_advance_99 rfl rfl rfl ?_
      refine E_cV (ci := 7) (as := []) (st := []) cm_X7_takeWord cV_X7_37 ⟨_, _, rfl⟩ (by decide) (lo_2 hL2) rfl rfl (by decide) (Nat.le_of_ble_eq_true rfl) (Nat.le_of_ble_eq_true rfl) dX7_advance_100 hB (fun r G7 hr => ?_)
      obtain ⟨rfl, hE7, hB⟩ := hr
      have hL7 : Lay G7.2.2 := by rw [hE7]; exact hL2
      have hE7 : G7.2.2 = G.2.2 := hE7.trans hE2
      show Ev K mX7_advance 2 103 [(0, .ref 2)] [] G7 _
      refine E_goto (tgt := 132) dX7_advance_103 (by decide) ?_
      exact E_vret rfl dX7_advance_132 ⟨rfl, hE7, hB⟩
  · have hB := hB.2 c
    refine E_aload_n 0 dX7_advance_76 rfl rfl rfl ?_
    refine E_iconst (v := 0) dX7_advance_77 (by decide) ?_
    refine E_pI fP_X7_30 rfl (lo_2 hL) dX7_advance_78 ?_
    refine E_goto (tgt := 132) dX7_advance_81 (by decide) ?_
    exact E_vret rfl dX7_advance_132 ⟨rfl, rfl, hB⟩

set_option maxRecDepth 20000 in
set_option maxHeartbeats 2000000 in
theorem kX7_rewind_0 {K : KT} {G : St} {Q : St → Prop}  (hL : Lay G.2.2) 
    (hB : EvV K mX7_advance 2 0 [(0, .ref 2)] [] (uI G 2 1 0) (fun G1 => Q G1)) :
    EvV K mX7_rewind 3 0 [(0, .ref 2)] [] G Q := by
  refine E_aload_n 0 dX7_rewind_0 rfl rfl rfl ?_
  refine E_iconst (v := 0) dX7_rewind_1 (by decide) ?_
  refine E_pI fP_X7_17 rfl (lo_2 hL) dX7_rewind_2 ?_
  refine E_aload_n 0 dX7_rewind_5 rfl rfl rfl ?_
  refine E_cV (ci := 7) (as := []) (st := []) cm_X7_advance cV_X7_20 ⟨_, _, rfl⟩ (by decide) (lo_2 hL) rfl rfl (by decide) (Nat.le_of_ble_eq_true rfl) (Nat.le_of_ble_eq_true rfl) dX7_rewind_6 hB (fun r G1 hr => ?_)
  obtain ⟨rfl, hE1, hB⟩ := hr
  have hL1 : Lay G1.2.2 := by rw [hE1]; exact hL
  have hE1 : G1.2.2 = G.2.2 := hE1
  show Ev K mX7_rewind 3 9 [(0, .ref 2)] [] G1 _
  exact E_vret rfl dX7_rewind_9 ⟨rfl, hE1, hB⟩

set_option maxRecDepth 20000 in
set_option maxHeartbeats 2000000 in
theorem kX7_isWord_0 {K : KT} {G : St} {Q : Int32 → St → Prop} {y1 : Int64} (hL : Lay G.2.2) 
    (hB : ((¬ (sI G 2 3) = 1 → Q 0 G) ∧ ((sI G 2 3) = 1 → ((¬ (sL G 2 5) = y1 → Q 0 G) ∧ ((sL G 2 5) = y1 → Q 1 G))))) :
    EvI K mX7_isWord 0 0 [(0, .ref 2), (1, .long y1)] [] G Q := by
  refine E_aload_n 0 dX7_isWord_0 rfl rfl rfl ?_
  refine E_gI (v := sI G 2 3) fG_X7_30 rfl (lo_2 hL) rfl dX7_isWord_1 ?_
  refine E_iconst (v := 1) dX7_isWord_4 (by decide) ?_
  refine E_icmp_ne (tgt := 21) dX7_isWord_5 (by decide) (fun c => ?_) (fun c => ?_)
  · have hB := hB.1 c
    refine E_iconst (v := 0) dX7_isWord_21 (by decide) ?_
    exact E_zret rfl (Or.inl rfl) dX7_isWord_22 ⟨_, rfl, rfl, hB⟩
  · have hB := hB.2 c
    refine E_aload_n 0 dX7_isWord_8 rfl rfl rfl ?_
    refine E_gL (v := sL G 2 5) fG_X7_26 rfl (lo_2 hL) rfl dX7_isWord_9 ?_
    refine E_lload_n 1 dX7_isWord_12 rfl rfl ?_
    refine E_lcmp dX7_isWord_13 ?_
    refine E_if_ne (tgt := 21) dX7_isWord_14 (by decide) (fun c => ?_) (fun c => ?_)
    · have hB := hB.1 ((fun q => c ((lgc_eq (sL G 2 5) y1).mpr q)))
      refine E_iconst (v := 0) dX7_isWord_21 (by decide) ?_
      exact E_zret rfl (Or.inl rfl) dX7_isWord_22 ⟨_, rfl, rfl, hB⟩
    · have hB := hB.2 ((lgc_eq (sL G 2 5) y1).mp c)
      refine E_iconst (v := 1) dX7_isWord_17 (by decide) ?_
      refine E_goto (tgt := 22) dX7_isWord_18 (by decide) ?_
      exact E_zret rfl (Or.inr rfl) dX7_isWord_22 ⟨_, rfl, rfl, hB⟩

set_option maxRecDepth 20000 in
set_option maxHeartbeats 2000000 in
theorem kX7_isName_0 {K : KT} {G : St} {Q : Int32 → St → Prop}  (hL : Lay G.2.2) 
    (hB : ((¬ (sI G 2 3) = 1 → Q 0 G) ∧ ((sI G 2 3) = 1 → EvI K mX10_isReserved 0 0 [(0, .long (sL G 2 5))] [] G (fun r1 G1 => ((¬ r1 = 0 → Q 0 G1) ∧ (r1 = 0 → Q 1 G1)))))) :
    EvI K mX7_isName 1 0 [(0, .ref 2)] [] G Q := by
  refine E_aload_n 0 dX7_isName_0 rfl rfl rfl ?_
  refine E_gI (v := sI G 2 3) fG_X7_30 rfl (lo_2 hL) rfl dX7_isName_1 ?_
  refine E_iconst (v := 1) dX7_isName_4 (by decide) ?_
  refine E_icmp_ne (tgt := 22) dX7_isName_5 (by decide) (fun c => ?_) (fun c => ?_)
  · have hB := hB.1 c
    refine E_iconst (v := 0) dX7_isName_22 (by decide) ?_
    exact E_zret rfl (Or.inl rfl) dX7_isName_23 ⟨_, rfl, rfl, hB⟩
  · have hB := hB.2 c
    refine E_aload_n 0 dX7_isName_8 rfl rfl rfl ?_
    refine E_gL (v := sL G 2 5) fG_X7_26 rfl (lo_2 hL) rfl dX7_isName_9 ?_
    refine E_callS (as := [.long (sL G 2 5)]) (st := []) cm_X10_isReserved cS_X7_49 rfl rfl (by decide) (Nat.le_of_ble_eq_true rfl) (Nat.le_of_ble_eq_true rfl) dX7_isName_12 hB (fun r G1 hr => ?_)
    obtain ⟨r1, rfl, hE1, hB⟩ := hr
    have hL1 : Lay G1.2.2 := by rw [hE1]; exact hL
    have hE1 : G1.2.2 = G.2.2 := hE1
    show Ev K mX7_isName 1 15 [(0, .ref 2)] [.int r1] G1 _
    refine E_if_ne (tgt := 22) dX7_isName_15 (by decide) (fun c => ?_) (fun c => ?_)
    · have hB := hB.1 c
      refine E_iconst (v := 0) dX7_isName_22 (by decide) ?_
      exact E_zret rfl (Or.inl rfl) dX7_isName_23 ⟨_, rfl, hE1, hB⟩
    · have hB := hB.2 c
      refine E_iconst (v := 1) dX7_isName_18 (by decide) ?_
      refine E_goto (tgt := 23) dX7_isName_19 (by decide) ?_
      exact E_zret rfl (Or.inr rfl) dX7_isName_23 ⟨_, rfl, hE1, hB⟩

set_option maxRecDepth 20000 in
set_option maxHeartbeats 2000000 in
theorem kX7_isSign_0 {K : KT} {G : St} {Q : Int32 → St → Prop} {x1 : Int32} (hL : Lay G.2.2) 
    (hB : ((¬ (sI G 2 3) = 3 → Q 0 G) ∧ ((sI G 2 3) = 3 → ((¬ (sL G 2 5) = (Int32.toInt64 x1) → Q 0 G) ∧ ((sL G 2 5) = (Int32.toInt64 x1) → Q 1 G))))) :
    EvI K mX7_isSign 0 0 [(0, .ref 2), (1, .int x1)] [] G Q := by
  refine E_aload_n 0 dX7_isSign_0 rfl rfl rfl ?_
  refine E_gI (v := sI G 2 3) fG_X7_30 rfl (lo_2 hL) rfl dX7_isSign_1 ?_
  refine E_iconst (v := 3) dX7_isSign_4 (by decide) ?_
  refine E_icmp_ne (tgt := 22) dX7_isSign_5 (by decide) (fun c => ?_) (fun c => ?_)
  · have hB := hB.1 c
    refine E_iconst (v := 0) dX7_isSign_22 (by decide) ?_
    exact E_zret rfl (Or.inl rfl) dX7_isSign_23 ⟨_, rfl, rfl, hB⟩
  · have hB := hB.2 c
    refine E_aload_n 0 dX7_isSign_8 rfl rfl rfl ?_
    refine E_gL (v := sL G 2 5) fG_X7_26 rfl (lo_2 hL) rfl dX7_isSign_9 ?_
    refine E_iload_n 1 dX7_isSign_12 rfl rfl ?_
    refine E_i2l dX7_isSign_13 rfl ?_
    refine E_lcmp dX7_isSign_14 ?_
    refine E_if_ne (tgt := 22) dX7_isSign_15 (by decide) (fun c => ?_) (fun c => ?_)
    · have hB := hB.1 ((fun q => c ((lgc_eq (sL G 2 5) (Int32.toInt64 x1)).mpr q)))
      refine E_iconst (v := 0) dX7_isSign_22 (by decide) ?_
      exact E_zret rfl (Or.inl rfl) dX7_isSign_23 ⟨_, rfl, rfl, hB⟩
    · have hB := hB.2 ((lgc_eq (sL G 2 5) (Int32.toInt64 x1)).mp c)
      refine E_iconst (v := 1) dX7_isSign_18 (by decide) ?_
      refine E_goto (tgt := 23) dX7_isSign_19 (by decide) ?_
      exact E_zret rfl (Or.inr rfl) dX7_isSign_23 ⟨_, rfl, rfl, hB⟩

set_option maxRecDepth 20000 in
set_option maxHeartbeats 2000000 in
theorem kX7_put_0 {K : KT} {G : St} {Q : St → Prop} {x1 : Int32} (hL : Lay G.2.2) 
    (hB : ((x1 = 10 → EvV K mX7_put 0 23 [(0, .ref 2), (1, .int x1)] [.int 1] G Q) ∧ (¬ x1 = 10 → ((x1 < 32 → EvV K mX7_put 0 22 [(0, .ref 2), (1, .int x1)] [] G Q) ∧ (¬ x1 < 32 → ((126 < x1 → EvV K mX7_put 0 22 [(0, .ref 2), (1, .int x1)] [] G Q) ∧ (¬ 126 < x1 → EvV K mX7_put 0 23 [(0, .ref 2), (1, .int x1)] [.int 1] G Q))))))) :
    EvV K mX7_put 0 0 [(0, .ref 2), (1, .int x1)] [] G Q := by
  refine E_iload_n 1 dX7_put_0 rfl rfl ?_
  refine E_bipush (v := 10) dX7_put_1 (by decide) ?_
  refine E_icmp_eq (tgt := 18) dX7_put_3 (by decide) (fun c => ?_) (fun c => ?_)
  · have hB := hB.1 c
    refine E_iconst (v := 1) dX7_put_18 (by decide) ?_
    refine E_goto (tgt := 23) dX7_put_19 (by decide) ?_
    exact EvV.tr hB rfl
  · have hB := hB.2 c
    refine E_iload_n 1 dX7_put_6 rfl rfl ?_
    refine E_bipush (v := 32) dX7_put_7 (by decide) ?_
    refine E_icmp_lt (tgt := 22) dX7_put_9 (by decide) (fun c => ?_) (fun c => ?_)
    · have hB := hB.1 c
      exact EvV.tr hB rfl
    · have hB := hB.2 c
      refine E_iload_n 1 dX7_put_12 rfl rfl ?_
      refine E_bipush (v := 126) dX7_put_13 (by decide) ?_
      refine E_icmp_gt (tgt := 22) dX7_put_15 (by decide) (fun c => ?_) (fun c => ?_)
      · have hB := hB.1 c
        exact EvV.tr hB rfl
      · have hB := hB.2 c
        refine E_iconst (v := 1) dX7_put_18 (by decide) ?_
        refine E_goto (tgt := 23) dX7_put_19 (by decide) ?_
        exact EvV.tr hB rfl

set_option maxRecDepth 20000 in
set_option maxHeartbeats 2000000 in
theorem kX7_put_22 {K : KT} {G : St} {Q : St → Prop} {x1 : Int32} (hL : Lay G.2.2) 
    (hB : EvV K mX7_put 0 23 [(0, .ref 2), (1, .int x1)] [.int 0] G Q) :
    EvV K mX7_put 0 22 [(0, .ref 2), (1, .int x1)] [] G Q := by
  refine E_iconst (v := 0) dX7_put_22 (by decide) ?_
  exact EvV.tr hB rfl

set_option maxRecDepth 20000 in
set_option maxHeartbeats 2000000 in
theorem kX7_put_23 {K : KT} {G : St} {Q : St → Prop} {x1 : Int32} {xs0 : Int32} (hL : Lay G.2.2) 
    (hB : ((xs0 = 0 → Q G) ∧ (¬ xs0 = 0 → ((1000 ≤ (sI G 2 2) → Q G) ∧ (¬ 1000 ≤ (sI G 2 2) → vp_in (sI G 2 2) 1000 ∧ Q (uI (uI G 2 2 ((sI G 2 2) + 1)) 3 (Int32.toNatClampNeg (sI G 2 2)) ((Int32.toInt8 ((Int32.toInt8 x1).toInt32)).toInt32))))))) :
    EvV K mX7_put 0 23 [(0, .ref 2), (1, .int x1)] [.int xs0] G Q := by
  refine E_istore_n (lv' := [(0, .ref 2), (1, .int x1), (2, .int xs0)]) dX7_put_23 rfl (by decide) rfl ?_
  refine E_iload_n 2 dX7_put_24 rfl rfl ?_
  refine E_if_eq (tgt := 56) dX7_put_25 (by decide) (fun c => ?_) (fun c => ?_)
  · have hB := hB.1 c
    exact E_vret rfl dX7_put_56 ⟨rfl, rfl, hB⟩
  · have hB := hB.2 c
    refine E_aload_n 0 dX7_put_28 rfl rfl rfl ?_
    refine E_gI (v := sI G 2 2) fG_X7_13 rfl (lo_2 hL) rfl dX7_put_29 ?_
    refine E_sipush (v := 1000) dX7_put_32 (by decide) ?_
    refine E_icmp_ge (tgt := 56) dX7_put_35 (by decide) (fun c => ?_) (fun c => ?_)
    · have hB := hB.1 c
      exact E_vret rfl dX7_put_56 ⟨rfl, rfl, hB⟩
    · have hB := hB.2 c
      refine E_aload_n 0 dX7_put_38 rfl rfl rfl ?_
      refine E_gR (j := 3) fG_X7_9 rfl (lo_2 hL) (lr_2_0 hL) (by decide) dX7_put_39 ?_
      refine E_aload_n 0 dX7_put_42 rfl rfl rfl ?_
      refine E_dup dX7_put_43 rfl ?_
      refine E_gI (v := sI G 2 2) fG_X7_13 rfl (lo_2 hL) rfl dX7_put_44 ?_
      refine E_dup_x1 dX7_put_47 rfl rfl ?_
      refine E_iconst (v := 1) dX7_put_48 (by decide) ?_
      refine E_iadd dX7_put_49 ?_
      refine E_pI fP_X7_13 rfl (lo_2 hL) dX7_put_50 ?_
      refine E_iload_n 1 dX7_put_53 rfl rfl ?_
      refine E_i2b dX7_put_54 rfl ?_
      obtain ⟨qq1, hB⟩ := hB
      refine E_sB (p := Int32.toNatClampNeg (sI G 2 2)) (la_3 hL) qq1 rfl dX7_put_55 ?_
      exact E_vret rfl dX7_put_56 ⟨rfl, rfl, hB⟩

set_option maxRecDepth 20000 in
set_option maxHeartbeats 2000000 in
theorem kX7_empty_0 {K : KT} {G : St} {Q : St → Prop}  (hL : Lay G.2.2) 
    (hB : Q (uI G 2 2 0)) :
    EvV K mX7_empty 0 0 [(0, .ref 2)] [] G Q := by
  refine E_aload_n 0 dX7_empty_0 rfl rfl rfl ?_
  refine E_iconst (v := 0) dX7_empty_1 (by decide) ?_
  refine E_pI fP_X7_13 rfl (lo_2 hL) dX7_empty_2 ?_
  exact E_vret rfl dX7_empty_5 ⟨rfl, rfl, hB⟩

set_option maxRecDepth 20000 in
set_option maxHeartbeats 2000000 in
theorem kX11_feedBytes_0 {K : KT} {G : St} {Q : St → Prop} {y1 : Int64} (hL : Lay G.2.2) 
    (hB : EvV K mX11_feedBytes 1 3 [(0, .ref 1), (1, .long y1), (3, .int 56)] [] G Q) :
    EvV K mX11_feedBytes 1 0 [(0, .ref 1), (1, .long y1)] [] G Q := by
  refine E_bipush (v := 56) dX11_feedBytes_0 (by decide) ?_
  refine E_istore_n (lv' := [(0, .ref 1), (1, .long y1), (3, .int 56)]) dX11_feedBytes_2 rfl (by decide) rfl ?_
  exact EvV.tr hB rfl

set_option maxRecDepth 20000 in
set_option maxHeartbeats 2000000 in
theorem kX11_feedBytes_3 {K : KT} {G : St} {Q : St → Prop} {y1 : Int64} {x3 : Int32} (hL : Lay G.2.2) 
    (hB : ((x3 < 0 → Q G) ∧ (¬ x3 < 0 → ∀ v1 : Int32, v1 = Int64.toInt32 (((y1.toUInt64 >>> ((Int32.toInt64 x3).toUInt64 &&& Int64.toUInt64 63)).toInt64) &&& 255) → EvV K mX7_put 0 0 [(0, .ref 2), (1, .int v1)] [] G (fun G2 => EvV K mX11_feedBytes 1 3 [(0, .ref 1), (1, .long y1), (3, .int (x3 + (-8)))] [] G2 Q)))) :
    EvV K mX11_feedBytes 1 3 [(0, .ref 1), (1, .long y1), (3, .int x3)] [] G Q := by
  refine E_iload_n 2 dX11_feedBytes_3 rfl rfl ?_
  refine E_if_lt (tgt := 28) dX11_feedBytes_4 (by decide) (fun c => ?_) (fun c => ?_)
  · have hB := hB.1 c
    exact E_vret rfl dX11_feedBytes_28 ⟨rfl, rfl, hB⟩
  · have hB := hB.2 c
    refine E_aload_n 0 dX11_feedBytes_7 rfl rfl rfl ?_
    refine E_gR (j := 2) fG_X11_10 rfl (lo_1 hL) (lr_1_0 hL) (by decide) dX11_feedBytes_8 ?_
    refine E_lload_n 1 dX11_feedBytes_11 rfl rfl ?_
    refine E_iload_n 2 dX11_feedBytes_12 rfl rfl ?_
    refine E_lushr dX11_feedBytes_13 rfl ?_
    refine E_ldc2 (v := 255) tm_433 dX11_feedBytes_14 ?_
    refine E_land dX11_feedBytes_17 ?_
    refine E_l2i dX11_feedBytes_18 rfl ?_
    refine E_topi (fun v1 ev1 => ?_)
    have hB := hB v1 ev1
    refine E_cV (ci := 7) (as := [.int v1]) (st := []) cm_X7_put cV_X11_346 ⟨_, _, rfl⟩ (by decide) (lo_2 hL) rfl rfl (by decide) (Nat.le_of_ble_eq_true rfl) (Nat.le_of_ble_eq_true rfl) dX11_feedBytes_19 hB (fun r G2 hr => ?_)
    obtain ⟨rfl, hE2, hB⟩ := hr
    have hL2 : Lay G2.2.2 := by rw [hE2]; exact hL
    have hE2 : G2.2.2 = G.2.2 := hE2
    show Ev K mX11_feedBytes 1 22 [(0, .ref 1), (1, .long y1), (3, .int x3)] [] G2 _
    refine E_iinc (v := x3 + (-8)) (lv' := [(0, .ref 1), (1, .long y1), (3, .int (x3 + (-8)))]) 2 dX11_feedBytes_22 rfl rfl (by decide) rfl ?_
    refine E_goto (tgt := 3) dX11_feedBytes_25 (by decide) ?_
    exact EvV.tr hB hE2

set_option maxRecDepth 20000 in
set_option maxHeartbeats 2000000 in
theorem kX11_feed_0 {K : KT} {G : St} {Q : Int32 → St → Prop} {y1 : Int64} {y3 : Int64} {y5 : Int64} (hL : Lay G.2.2) 
    (hB : EvV K mX11_feedBytes 1 0 [(0, .ref 1), (1, .long y1)] [] G (fun G1 => EvV K mX11_feedBytes 1 0 [(0, .ref 1), (1, .long y3)] [] G1 (fun G2 => EvV K mX11_feedBytes 1 0 [(0, .ref 1), (1, .long y5)] [] G2 (fun G3 => Q (sI G3 2 2) G3)))) :
    EvI K mX11_feed 2 0 [(0, .ref 1), (1, .long y1), (3, .long y3), (5, .long y5)] [] G Q := by
  refine E_aload_n 0 dX11_feed_0 rfl rfl rfl ?_
  refine E_lload_n 1 dX11_feed_1 rfl rfl ?_
  refine E_cV (ci := 10) (as := [.long y1]) (st := []) cm_X11_feedBytes cV_X11_97 ⟨_, _, rfl⟩ (by decide) (lo_1 hL) rfl rfl (by decide) (Nat.le_of_ble_eq_true rfl) (Nat.le_of_ble_eq_true rfl) dX11_feed_2 hB (fun r G1 hr => ?_)
  obtain ⟨rfl, hE1, hB⟩ := hr
  have hL1 : Lay G1.2.2 := by rw [hE1]; exact hL
  have hE1 : G1.2.2 = G.2.2 := hE1
  show Ev K mX11_feed 2 5 [(0, .ref 1), (1, .long y1), (3, .long y3), (5, .long y5)] [] G1 _
  refine E_aload_n 0 dX11_feed_5 rfl rfl rfl ?_
  refine E_lload_n 2 dX11_feed_6 rfl rfl ?_
  refine E_cV (ci := 10) (as := [.long y3]) (st := []) cm_X11_feedBytes cV_X11_97 ⟨_, _, rfl⟩ (by decide) (lo_1 hL1) rfl rfl (by decide) (Nat.le_of_ble_eq_true rfl) (Nat.le_of_ble_eq_true rfl) dX11_feed_7 hB (fun r G2 hr => ?_)
  obtain ⟨rfl, hE2, hB⟩ := hr
  have hL2 : Lay G2.2.2 := by rw [hE2]; exact hL1
  have hE2 : G2.2.2 = G.2.2 := hE2.trans hE1
  show Ev K mX11_feed 2 10 [(0, .ref 1), (1, .long y1), (3, .long y3), (5, .long y5)] [] G2 _
  refine E_aload_n 0 dX11_feed_10 rfl rfl rfl ?_
  refine E_lload 3 dX11_feed_11 rfl ?_
  refine E_cV (ci := 10) (as := [.long y5]) (st := []) cm_X11_feedBytes cV_X11_97 ⟨_, _, rfl⟩ (by decide) (lo_1 hL2) rfl rfl (by decide) (Nat.le_of_ble_eq_true rfl) (Nat.le_of_ble_eq_true rfl) dX11_feed_13 hB (fun r G3 hr => ?_)
  obtain ⟨rfl, hE3, hB⟩ := hr
  have hL3 : Lay G3.2.2 := by rw [hE3]; exact hL2
  have hE3 : G3.2.2 = G.2.2 := hE3.trans hE2
  show Ev K mX11_feed 2 16 [(0, .ref 1), (1, .long y1), (3, .long y3), (5, .long y5)] [] G3 _
  refine E_aload_n 0 dX11_feed_16 rfl rfl rfl ?_
  refine E_gR (j := 2) fG_X11_10 rfl (lo_1 hL3) (lr_1_0 hL3) (by decide) dX11_feed_17 ?_
  refine E_gI (v := sI G3 2 2) fG_X11_101 rfl (lo_2 hL3) rfl dX11_feed_20 ?_
  exact E_iret rfl dX11_feed_23 ⟨_, rfl, hE3, hB⟩

set_option maxRecDepth 20000 in
set_option maxHeartbeats 2000000 in
theorem kX11_termsChanged_0 {K : KT} {G : St} {Q : St → Prop}  (hL : Lay G.2.2) 
    (hB : Q (uI (uI G 1 16 0) 1 18 0)) :
    EvV K mX11_termsChanged 0 0 [(0, .ref 1)] [] G Q := by
  refine E_aload_n 0 dX11_termsChanged_0 rfl rfl rfl ?_
  refine E_iconst (v := 0) dX11_termsChanged_1 (by decide) ?_
  refine E_pZ fP_X11_367 rfl (lo_1 hL) (Or.inl rfl) dX11_termsChanged_2 ?_
  refine E_aload_n 0 dX11_termsChanged_5 rfl rfl rfl ?_
  refine E_iconst (v := 0) dX11_termsChanged_6 (by decide) ?_
  refine E_pZ fP_X11_154 rfl (lo_1 hL) (Or.inl rfl) dX11_termsChanged_7 ?_
  exact E_vret rfl dX11_termsChanged_10 ⟨rfl, rfl, hB⟩

set_option maxRecDepth 20000 in
set_option maxHeartbeats 2000000 in
theorem kX11_sightChanged_0 {K : KT} {G : St} {Q : St → Prop}  (hL : Lay G.2.2) 
    (hB : EvV K mX11_termsChanged 0 0 [(0, .ref 1)] [] (uI (uI G 1 15 0) 1 17 0) (fun G1 => Q G1)) :
    EvV K mX11_sightChanged 1 0 [(0, .ref 1)] [] G Q := by
  refine E_aload_n 0 dX11_sightChanged_0 rfl rfl rfl ?_
  refine E_iconst (v := 0) dX11_sightChanged_1 (by decide) ?_
  refine E_pZ fP_X11_320 rfl (lo_1 hL) (Or.inl rfl) dX11_sightChanged_2 ?_
  refine E_aload_n 0 dX11_sightChanged_5 rfl rfl rfl ?_
  refine E_iconst (v := 0) dX11_sightChanged_6 (by decide) ?_
  refine E_pZ fP_X11_364 rfl (lo_1 hL) (Or.inl rfl) dX11_sightChanged_7 ?_
  refine E_aload_n 0 dX11_sightChanged_10 rfl rfl rfl ?_
  refine E_cV (ci := 10) (as := []) (st := []) cm_X11_termsChanged cV_X11_131 ⟨_, _, rfl⟩ (by decide) (lo_1 hL) rfl rfl (by decide) (Nat.le_of_ble_eq_true rfl) (Nat.le_of_ble_eq_true rfl) dX11_sightChanged_11 hB (fun r G1 hr => ?_)
  obtain ⟨rfl, hE1, hB⟩ := hr
  have hL1 : Lay G1.2.2 := by rw [hE1]; exact hL
  have hE1 : G1.2.2 = G.2.2 := hE1
  show Ev K mX11_sightChanged 1 14 [(0, .ref 1)] [] G1 _
  exact E_vret rfl dX11_sightChanged_14 ⟨rfl, hE1, hB⟩

set_option maxRecDepth 20000 in
set_option maxHeartbeats 2000000 in
theorem kX11_beginAnewWithDraft_0 {K : KT} {G : St} {Q : St → Prop}  (hL : Lay G.2.2) 
    (hB : Lay (uR (uR G 1 8 (sR G 1 9)) 1 9 (sR G 1 8)).2.2 ∧ EvV K mX8_clear 0 0 [(0, .ref (sR G 1 10))] [] (uR (uR G 1 8 (sR G 1 9)) 1 9 (sR G 1 8)) (fun G2 => EvV K mX2_forgetLets 0 0 [(0, .ref 14)] [] G2 (fun G3 => EvV K mX4_forgetChosen 0 0 [(0, .ref 28)] [] G3 (fun G4 => EvV K mJ7_fill_53178 0 0 [(0, .ref 65), (1, .int 0)] [] G4 (fun G5 => EvV K mX11_sightChanged 1 0 [(0, .ref 1)] [] G5 (fun G6 => Q G6)))))) :
    EvVa K mX11_beginAnewWithDraft 2 0 [(0, .ref 1)] [] G Q := by
  refine E_aload_n 0 dX11_beginAnewWithDraft_0 rfl rfl rfl ?_
  refine E_gR (j := sR G 1 8) fG_X11_72 rfl (lo_1 hL) rfl (lhP (ly_8 hL)) dX11_beginAnewWithDraft_1 ?_
  refine E_astore_n (lv' := [(0, .ref 1), (1, .ref (sR G 1 8))]) dX11_beginAnewWithDraft_4 rfl (by decide) rfl rfl ?_
  refine E_aload_n 0 dX11_beginAnewWithDraft_5 rfl rfl rfl ?_
  refine E_aload_n 0 dX11_beginAnewWithDraft_6 rfl rfl rfl ?_
  refine E_gR (j := sR G 1 9) fG_X11_76 rfl (lo_1 hL) rfl (lhP (ly_9 hL)) dX11_beginAnewWithDraft_7 ?_
  refine E_pR fP_X11_72 rfl (lo_1 hL) (lhP (ly_9 hL)) dX11_beginAnewWithDraft_10 ?_
  refine E_aload_n 0 dX11_beginAnewWithDraft_13 rfl rfl rfl ?_
  refine E_aload_n 1 dX11_beginAnewWithDraft_14 rfl rfl rfl ?_
  refine E_pR fP_X11_76 rfl (ob_uR (lo_1 hL)) (lhP (ly_8 hL)) dX11_beginAnewWithDraft_15 ?_
  refine E_aload_n 0 dX11_beginAnewWithDraft_18 rfl rfl rfl ?_
  refine E_gR (j := sR G 1 10) fG_X11_82 rfl (ob_uR (ob_uR (lo_1 hL))) rfl (ltP (ly_10 hL)) dX11_beginAnewWithDraft_19 ?_
  obtain ⟨qq1, hB⟩ := hB
  refine E_cV (ci := 8) (as := []) (st := []) cm_X8_clear cV_X11_349 ⟨_, _, rfl⟩ (by decide) (ltO qq1 (ly_10 hL)) rfl rfl (by decide) (Nat.le_of_ble_eq_true rfl) (Nat.le_of_ble_eq_true rfl) dX11_beginAnewWithDraft_22 hB (fun r G2 hr => ?_)
  obtain ⟨rfl, hE2, hB⟩ := hr
  have hL2 : Lay G2.2.2 := by rw [hE2]; exact qq1
  show Ev K mX11_beginAnewWithDraft 2 25 [(0, .ref 1), (1, .ref (sR G 1 8))] [] G2 _
  refine E_aload_n 0 dX11_beginAnewWithDraft_25 rfl rfl rfl ?_
  refine E_gR (j := 14) fG_X11_42 rfl (lo_1 hL2) (lr_1_4 hL2) (by decide) dX11_beginAnewWithDraft_26 ?_
  refine E_cV (ci := 2) (as := []) (st := []) cm_X2_forgetLets cV_X11_352 ⟨_, _, rfl⟩ (by decide) (lo_14 hL2) rfl rfl (by decide) (Nat.le_of_ble_eq_true rfl) (Nat.le_of_ble_eq_true rfl) dX11_beginAnewWithDraft_29 hB (fun r G3 hr => ?_)
  obtain ⟨rfl, hE3, hB⟩ := hr
  have hL3 : Lay G3.2.2 := by rw [hE3]; exact hL2
  show Ev K mX11_beginAnewWithDraft 2 32 [(0, .ref 1), (1, .ref (sR G 1 8))] [] G3 _
  refine E_aload_n 0 dX11_beginAnewWithDraft_32 rfl rfl rfl ?_
  refine E_gR (j := 28) fG_X11_58 rfl (lo_1 hL3) (lr_1_6 hL3) (by decide) dX11_beginAnewWithDraft_33 ?_
  refine E_cV (ci := 4) (as := []) (st := []) cm_X4_forgetChosen cV_X11_355 ⟨_, _, rfl⟩ (by decide) (lo_28 hL3) rfl rfl (by decide) (Nat.le_of_ble_eq_true rfl) (Nat.le_of_ble_eq_true rfl) dX11_beginAnewWithDraft_36 hB (fun r G4 hr => ?_)
  obtain ⟨rfl, hE4, hB⟩ := hr
  have hL4 : Lay G4.2.2 := by rw [hE4]; exact hL3
  show Ev K mX11_beginAnewWithDraft 2 39 [(0, .ref 1), (1, .ref (sR G 1 8))] [] G4 _
  refine E_aload_n 0 dX11_beginAnewWithDraft_39 rfl rfl rfl ?_
  refine E_gR (j := 65) fG_X11_89 rfl (lo_1 hL4) (lr_1_14 hL4) (by decide) dX11_beginAnewWithDraft_40 ?_
  refine E_iconst (v := 0) dX11_beginAnewWithDraft_43 (by decide) ?_
  refine E_callS (as := [.ref 65, .int 0]) (st := []) cm_J7_fill_53178 cS_X11_358 rfl rfl (by decide) (Nat.le_of_ble_eq_true rfl) (Nat.le_of_ble_eq_true rfl) dX11_beginAnewWithDraft_44 hB (fun r G5 hr => ?_)
  obtain ⟨rfl, hE5, hB⟩ := hr
  have hL5 : Lay G5.2.2 := by rw [hE5]; exact hL4
  show Ev K mX11_beginAnewWithDraft 2 47 [(0, .ref 1), (1, .ref (sR G 1 8))] [] G5 _
  refine E_aload_n 0 dX11_beginAnewWithDraft_47 rfl rfl rfl ?_
  refine E_cV (ci := 10) (as := []) (st := []) cm_X11_sightChanged cV_X11_124 ⟨_, _, rfl⟩ (by decide) (lo_1 hL5) rfl rfl (by decide) (Nat.le_of_ble_eq_true rfl) (Nat.le_of_ble_eq_true rfl) dX11_beginAnewWithDraft_48 hB (fun r G6 hr => ?_)
  obtain ⟨rfl, hE6, hB⟩ := hr
  have hL6 : Lay G6.2.2 := by rw [hE6]; exact hL5
  show Ev K mX11_beginAnewWithDraft 2 51 [(0, .ref 1), (1, .ref (sR G 1 8))] [] G6 _
  exact E_vret rfl dX11_beginAnewWithDraft_51 ⟨rfl, hB⟩

set_option maxRecDepth 20000 in
set_option maxHeartbeats 2000000 in
theorem kX11_tables_0 {K : KT} {G : St} {Q : Int32 → St → Prop}  (hL : Lay G.2.2) 
    (hB : EvI K mX5_readTables 6 0 [(0, .ref 4), (1, .ref (sR G 1 9))] [] G (fun r1 G1 => EvV K mX7_empty 0 0 [(0, .ref 2)] [] G1 (fun G2 => ((¬ r1 = 0 → Q r1 G2) ∧ (r1 = 0 → EvVa K mX11_beginAnewWithDraft 2 0 [(0, .ref 1)] [] G2 (fun G3 => Lay G3.2.2 ∧ Q r1 G3)))))) :
    EvIa K mX11_tables 7 0 [(0, .ref 1)] [] G Q := by
  refine E_aload_n 0 dX11_tables_0 rfl rfl rfl ?_
  refine E_gR (j := 4) fG_X11_21 rfl (lo_1 hL) (lr_1_1 hL) (by decide) dX11_tables_1 ?_
  refine E_aload_n 0 dX11_tables_4 rfl rfl rfl ?_
  refine E_gR (j := sR G 1 9) fG_X11_76 rfl (lo_1 hL) rfl (lhP (ly_9 hL)) dX11_tables_5 ?_
  refine E_cV (ci := 5) (as := [.ref (sR G 1 9)]) (st := []) cm_X5_readTables cV_X11_104 ⟨_, _, rfl⟩ (by decide) (lo_4 hL) rfl rfl (by decide) (Nat.le_of_ble_eq_true rfl) (Nat.le_of_ble_eq_true rfl) dX11_tables_8 hB (fun r G1 hr => ?_)
  obtain ⟨r1, rfl, hE1, hB⟩ := hr
  have hL1 : Lay G1.2.2 := by rw [hE1]; exact hL
  show Ev K mX11_tables 7 11 [(0, .ref 1)] [.int r1] G1 _
  refine E_istore_n (lv' := [(0, .ref 1), (1, .int r1)]) dX11_tables_11 rfl (by decide) rfl ?_
  refine E_aload_n 0 dX11_tables_12 rfl rfl rfl ?_
  refine E_gR (j := 2) fG_X11_10 rfl (lo_1 hL1) (lr_1_0 hL1) (by decide) dX11_tables_13 ?_
  refine E_cV (ci := 7) (as := []) (st := []) cm_X7_empty cV_X11_108 ⟨_, _, rfl⟩ (by decide) (lo_2 hL1) rfl rfl (by decide) (Nat.le_of_ble_eq_true rfl) (Nat.le_of_ble_eq_true rfl) dX11_tables_16 hB (fun r G2 hr => ?_)
  obtain ⟨rfl, hE2, hB⟩ := hr
  have hL2 : Lay G2.2.2 := by rw [hE2]; exact hL1
  show Ev K mX11_tables 7 19 [(0, .ref 1), (1, .int r1)] [] G2 _
  refine E_iload_n 1 dX11_tables_19 rfl rfl ?_
  refine E_if_ne (tgt := 27) dX11_tables_20 (by decide) (fun c => ?_) (fun c => ?_)
  · have hB := hB.1 c
    refine E_iload_n 1 dX11_tables_27 rfl rfl ?_
    exact E_iret rfl dX11_tables_28 ⟨_, rfl, hB⟩
  · have hB := hB.2 c
    refine E_aload_n 0 dX11_tables_23 rfl rfl rfl ?_
    refine E_cV (ci := 10) (as := []) (st := []) cm_X11_beginAnewWithDraft cV_X11_111 ⟨_, _, rfl⟩ (by decide) (lo_1 hL2) rfl rfl (by decide) (Nat.le_of_ble_eq_true rfl) (Nat.le_of_ble_eq_true rfl) dX11_tables_24 hB (fun r G3 hr => ?_)
    obtain ⟨rfl, hL3, hB⟩ := hr
    show Ev K mX11_tables 7 27 [(0, .ref 1), (1, .int r1)] [] G3 _
    refine E_iload_n 1 dX11_tables_27 rfl rfl ?_
    exact E_iret rfl dX11_tables_28 ⟨_, rfl, hB⟩

set_option maxRecDepth 20000 in
set_option maxHeartbeats 2000000 in
theorem kX11_rows_0 {K : KT} {G : St} {Q : Int32 → St → Prop}  (hL : Lay G.2.2) 
    (hB : EvI K mX5_readRows 5 0 [(0, .ref 4), (1, .ref (sR G 1 8))] [] G (fun r1 G1 => EvV K mX7_empty 0 0 [(0, .ref 2)] [] G1 (fun G2 => ((r1 = 0 → (((sI G2 (sR G2 1 8) 10) = (sI G (sR G 1 8) 10) → Q r1 G2) ∧ (¬ (sI G2 (sR G2 1 8) 10) = (sI G (sR G 1 8) 10) → EvV K mX11_sightChanged 1 0 [(0, .ref 1)] [] G2 (fun G3 => Q r1 G3)))) ∧ (¬ r1 = 0 → EvV K mX1_keepRows 0 0 [(0, .ref (sR G2 1 8)), (1, .int (sI G (sR G 1 8) 10))] [] G2 (fun G4 => Q r1 G4)))))) :
    EvI K mX11_rows 6 0 [(0, .ref 1)] [] G Q := by
  refine E_aload_n 0 dX11_rows_0 rfl rfl rfl ?_
  refine E_gR (j := sR G 1 8) fG_X11_72 rfl (lo_1 hL) rfl (lhP (ly_8 hL)) dX11_rows_1 ?_
  refine E_gI (v := sI G (sR G 1 8) 10) fG_X11_114 rfl (lhO hL (ly_8 hL)) rfl dX11_rows_4 ?_
  refine E_istore_n (lv' := [(0, .ref 1), (1, .int (sI G (sR G 1 8) 10))]) dX11_rows_7 rfl (by decide) rfl ?_
  refine E_aload_n 0 dX11_rows_8 rfl rfl rfl ?_
  refine E_gR (j := 4) fG_X11_21 rfl (lo_1 hL) (lr_1_1 hL) (by decide) dX11_rows_9 ?_
  refine E_aload_n 0 dX11_rows_12 rfl rfl rfl ?_
  refine E_gR (j := sR G 1 8) fG_X11_72 rfl (lo_1 hL) rfl (lhP (ly_8 hL)) dX11_rows_13 ?_
  refine E_cV (ci := 5) (as := [.ref (sR G 1 8)]) (st := []) cm_X5_readRows cV_X11_117 ⟨_, _, rfl⟩ (by decide) (lo_4 hL) rfl rfl (by decide) (Nat.le_of_ble_eq_true rfl) (Nat.le_of_ble_eq_true rfl) dX11_rows_16 hB (fun r G1 hr => ?_)
  obtain ⟨r1, rfl, hE1, hB⟩ := hr
  have hL1 : Lay G1.2.2 := by rw [hE1]; exact hL
  have hE1 : G1.2.2 = G.2.2 := hE1
  show Ev K mX11_rows 6 19 [(0, .ref 1), (1, .int (sI G (sR G 1 8) 10))] [.int r1] G1 _
  refine E_istore_n (lv' := [(0, .ref 1), (1, .int (sI G (sR G 1 8) 10)), (2, .int r1)]) dX11_rows_19 rfl (by decide) rfl ?_
  refine E_aload_n 0 dX11_rows_20 rfl rfl rfl ?_
  refine E_gR (j := 2) fG_X11_10 rfl (lo_1 hL1) (lr_1_0 hL1) (by decide) dX11_rows_21 ?_
  refine E_cV (ci := 7) (as := []) (st := []) cm_X7_empty cV_X11_108 ⟨_, _, rfl⟩ (by decide) (lo_2 hL1) rfl rfl (by decide) (Nat.le_of_ble_eq_true rfl) (Nat.le_of_ble_eq_true rfl) dX11_rows_24 hB (fun r G2 hr => ?_)
  obtain ⟨rfl, hE2, hB⟩ := hr
  have hL2 : Lay G2.2.2 := by rw [hE2]; exact hL1
  have hE2 : G2.2.2 = G.2.2 := hE2.trans hE1
  show Ev K mX11_rows 6 27 [(0, .ref 1), (1, .int (sI G (sR G 1 8) 10)), (2, .int r1)] [] G2 _
  refine E_iload_n 2 dX11_rows_27 rfl rfl ?_
  refine E_if_eq (tgt := 42) dX11_rows_28 (by decide) (fun c => ?_) (fun c => ?_)
  · have hB := hB.1 c
    refine E_aload_n 0 dX11_rows_42 rfl rfl rfl ?_
    refine E_gR (j := sR G2 1 8) fG_X11_72 rfl (lo_1 hL2) rfl (lhP (ly_8 hL2)) dX11_rows_43 ?_
    refine E_gI (v := sI G2 (sR G2 1 8) 10) fG_X11_114 rfl (lhO hL2 (ly_8 hL2)) rfl dX11_rows_46 ?_
    refine E_iload_n 1 dX11_rows_49 rfl rfl ?_
    refine E_icmp_eq (tgt := 57) dX11_rows_50 (by decide) (fun c => ?_) (fun c => ?_)
    · have hB := hB.1 c
      refine E_iload_n 2 dX11_rows_57 rfl rfl ?_
      exact E_iret rfl dX11_rows_58 ⟨_, rfl, hE2, hB⟩
    · have hB := hB.2 c
      refine E_aload_n 0 dX11_rows_53 rfl rfl rfl ?_
      refine E_cV (ci := 10) (as := []) (st := []) cm_X11_sightChanged cV_X11_124 ⟨_, _, rfl⟩ (by decide) (lo_1 hL2) rfl rfl (by decide) (Nat.le_of_ble_eq_true rfl) (Nat.le_of_ble_eq_true rfl) dX11_rows_54 hB (fun r G3 hr => ?_)
      obtain ⟨rfl, hE3, hB⟩ := hr
      have hL3 : Lay G3.2.2 := by rw [hE3]; exact hL2
      have hE3 : G3.2.2 = G.2.2 := hE3.trans hE2
      show Ev K mX11_rows 6 57 [(0, .ref 1), (1, .int (sI G (sR G 1 8) 10)), (2, .int r1)] [] G3 _
      refine E_iload_n 2 dX11_rows_57 rfl rfl ?_
      exact E_iret rfl dX11_rows_58 ⟨_, rfl, hE3, hB⟩
  · have hB := hB.2 c
    refine E_aload_n 0 dX11_rows_31 rfl rfl rfl ?_
    refine E_gR (j := sR G2 1 8) fG_X11_72 rfl (lo_1 hL2) rfl (lhP (ly_8 hL2)) dX11_rows_32 ?_
    refine E_iload_n 1 dX11_rows_35 rfl rfl ?_
    refine E_cV (ci := 1) (as := [.int (sI G (sR G 1 8) 10)]) (st := []) cm_X1_keepRows cV_X11_120 ⟨_, _, rfl⟩ (by decide) (lhO hL2 (ly_8 hL2)) rfl rfl (by decide) (Nat.le_of_ble_eq_true rfl) (Nat.le_of_ble_eq_true rfl) dX11_rows_36 hB (fun r G4 hr => ?_)
    obtain ⟨rfl, hE4, hB⟩ := hr
    have hL4 : Lay G4.2.2 := by rw [hE4]; exact hL2
    have hE4 : G4.2.2 = G.2.2 := hE4.trans hE2
    show Ev K mX11_rows 6 39 [(0, .ref 1), (1, .int (sI G (sR G 1 8) 10)), (2, .int r1)] [] G4 _
    refine E_goto (tgt := 57) dX11_rows_39 (by decide) ?_
    refine E_iload_n 2 dX11_rows_57 rfl rfl ?_
    exact E_iret rfl dX11_rows_58 ⟨_, rfl, hE4, hB⟩

set_option maxRecDepth 20000 in
set_option maxHeartbeats 2000000 in
theorem kX11_ask_0 {K : KT} {G : St} {Q : Int32 → St → Prop}  (hL : Lay G.2.2) 
    (hB : EvI K mX5_readAsk 4 0 [(0, .ref 4), (1, .ref (sR G 1 11))] [] G (fun r1 G1 => EvV K mX7_empty 0 0 [(0, .ref 2)] [] G1 (fun G2 => ((¬ r1 = 0 → Q r1 G2) ∧ (r1 = 0 → Lay (uR (uR G2 1 10 (sR G2 1 11)) 1 11 (sR G2 1 10)).2.2 ∧ EvV K mX11_termsChanged 0 0 [(0, .ref 1)] [] (uR (uR G2 1 10 (sR G2 1 11)) 1 11 (sR G2 1 10)) (fun G4 => Q r1 G4)))))) :
    EvIa K mX11_ask 5 0 [(0, .ref 1)] [] G Q := by
  refine E_aload_n 0 dX11_ask_0 rfl rfl rfl ?_
  refine E_gR (j := 4) fG_X11_21 rfl (lo_1 hL) (lr_1_1 hL) (by decide) dX11_ask_1 ?_
  refine E_aload_n 0 dX11_ask_4 rfl rfl rfl ?_
  refine E_gR (j := sR G 1 11) fG_X11_86 rfl (lo_1 hL) rfl (ltP (ly_11 hL)) dX11_ask_5 ?_
  refine E_cV (ci := 5) (as := [.ref (sR G 1 11)]) (st := []) cm_X5_readAsk cV_X11_127 ⟨_, _, rfl⟩ (by decide) (lo_4 hL) rfl rfl (by decide) (Nat.le_of_ble_eq_true rfl) (Nat.le_of_ble_eq_true rfl) dX11_ask_8 hB (fun r G1 hr => ?_)
  obtain ⟨r1, rfl, hE1, hB⟩ := hr
  have hL1 : Lay G1.2.2 := by rw [hE1]; exact hL
  show Ev K mX11_ask 5 11 [(0, .ref 1)] [.int r1] G1 _
  refine E_istore_n (lv' := [(0, .ref 1), (1, .int r1)]) dX11_ask_11 rfl (by decide) rfl ?_
  refine E_aload_n 0 dX11_ask_12 rfl rfl rfl ?_
  refine E_gR (j := 2) fG_X11_10 rfl (lo_1 hL1) (lr_1_0 hL1) (by decide) dX11_ask_13 ?_
  refine E_cV (ci := 7) (as := []) (st := []) cm_X7_empty cV_X11_108 ⟨_, _, rfl⟩ (by decide) (lo_2 hL1) rfl rfl (by decide) (Nat.le_of_ble_eq_true rfl) (Nat.le_of_ble_eq_true rfl) dX11_ask_16 hB (fun r G2 hr => ?_)
  obtain ⟨rfl, hE2, hB⟩ := hr
  have hL2 : Lay G2.2.2 := by rw [hE2]; exact hL1
  show Ev K mX11_ask 5 19 [(0, .ref 1), (1, .int r1)] [] G2 _
  refine E_iload_n 1 dX11_ask_19 rfl rfl ?_
  refine E_if_ne (tgt := 45) dX11_ask_20 (by decide) (fun c => ?_) (fun c => ?_)
  · have hB := hB.1 c
    refine E_iload_n 1 dX11_ask_45 rfl rfl ?_
    exact E_iret rfl dX11_ask_46 ⟨_, rfl, hB⟩
  · have hB := hB.2 c
    refine E_aload_n 0 dX11_ask_23 rfl rfl rfl ?_
    refine E_gR (j := sR G2 1 10) fG_X11_82 rfl (lo_1 hL2) rfl (ltP (ly_10 hL2)) dX11_ask_24 ?_
    refine E_astore_n (lv' := [(0, .ref 1), (1, .int r1), (2, .ref (sR G2 1 10))]) dX11_ask_27 rfl (by decide) rfl rfl ?_
    refine E_aload_n 0 dX11_ask_28 rfl rfl rfl ?_
    refine E_aload_n 0 dX11_ask_29 rfl rfl rfl ?_
    refine E_gR (j := sR G2 1 11) fG_X11_86 rfl (lo_1 hL2) rfl (ltP (ly_11 hL2)) dX11_ask_30 ?_
    refine E_pR fP_X11_82 rfl (lo_1 hL2) (ltP (ly_11 hL2)) dX11_ask_33 ?_
    refine E_aload_n 0 dX11_ask_36 rfl rfl rfl ?_
    refine E_aload_n 2 dX11_ask_37 rfl rfl rfl ?_
    refine E_pR fP_X11_86 rfl (ob_uR (lo_1 hL2)) (ltP (ly_10 hL2)) dX11_ask_38 ?_
    refine E_aload_n 0 dX11_ask_41 rfl rfl rfl ?_
    obtain ⟨qq3, hB⟩ := hB
    refine E_cV (ci := 10) (as := []) (st := []) cm_X11_termsChanged cV_X11_131 ⟨_, _, rfl⟩ (by decide) (lo_1 qq3) rfl rfl (by decide) (Nat.le_of_ble_eq_true rfl) (Nat.le_of_ble_eq_true rfl) dX11_ask_42 hB (fun r G4 hr => ?_)
    obtain ⟨rfl, hE4, hB⟩ := hr
    have hL4 : Lay G4.2.2 := by rw [hE4]; exact qq3
    show Ev K mX11_ask 5 45 [(0, .ref 1), (1, .int r1), (2, .ref (sR G2 1 10))] [] G4 _
    refine E_iload_n 1 dX11_ask_45 rfl rfl ?_
    exact E_iret rfl dX11_ask_46 ⟨_, rfl, hB⟩

set_option maxRecDepth 20000 in
set_option maxHeartbeats 2000000 in
theorem kX11_seen_0 {K : KT} {G : St} {Q : Int32 → St → Prop}  (hL : Lay G.2.2) 
    (hB : EvI K mX1_seenBy 1 0 [(0, .ref (sR G 1 8)), (1, .int (sI G 1 12))] [] G (fun r1 G1 => Q r1 G1)) :
    EvI K mX11_seen 2 0 [(0, .ref 1)] [] G Q := by
  refine E_aload_n 0 dX11_seen_0 rfl rfl rfl ?_
  refine E_gR (j := sR G 1 8) fG_X11_72 rfl (lo_1 hL) rfl (lhP (ly_8 hL)) dX11_seen_1 ?_
  refine E_aload_n 0 dX11_seen_4 rfl rfl rfl ?_
  refine E_gI (v := sI G 1 12) fG_X11_304 rfl (lo_1 hL) rfl dX11_seen_5 ?_
  refine E_cV (ci := 1) (as := [.int (sI G 1 12)]) (st := []) cm_X1_seenBy cV_X11_370 ⟨_, _, rfl⟩ (by decide) (lhO hL (ly_8 hL)) rfl rfl (by decide) (Nat.le_of_ble_eq_true rfl) (Nat.le_of_ble_eq_true rfl) dX11_seen_8 hB (fun r G1 hr => ?_)
  obtain ⟨r1, rfl, hE1, hB⟩ := hr
  have hL1 : Lay G1.2.2 := by rw [hE1]; exact hL
  have hE1 : G1.2.2 = G.2.2 := hE1
  show Ev K mX11_seen 2 11 [(0, .ref 1)] [.int r1] G1 _
  exact E_iret rfl dX11_seen_11 ⟨_, rfl, hE1, hB⟩

set_option maxRecDepth 20000 in
set_option maxHeartbeats 2000000 in
theorem kX11_freshenHits_0 {K : KT} {G : St} {Q : St → Prop}  (hL : Lay G.2.2) 
    (hB : ((¬ (sI G 1 16) = 0 → Q G) ∧ ((sI G 1 16) = 0 → EvI K mX11_seen 2 0 [(0, .ref 1)] [] G (fun r1 G1 => EvV K mX0_fill 4 0 [(0, .ref 5), (1, .ref (sR G 1 8)), (2, .ref (sR G 1 10)), (3, .int r1)] [] G1 (fun G2 => Q (uI G2 1 16 1)))))) :
    EvV K mX11_freshenHits 5 0 [(0, .ref 1)] [] G Q := by
  refine E_aload_n 0 dX11_freshenHits_0 rfl rfl rfl ?_
  refine E_gI (v := sI G 1 16) fG_X11_367 rfl (lo_1 hL) rfl dX11_freshenHits_1 ?_
  refine E_if_ne (tgt := 31) dX11_freshenHits_4 (by decide) (fun c => ?_) (fun c => ?_)
  · have hB := hB.1 c
    exact E_vret rfl dX11_freshenHits_31 ⟨rfl, rfl, hB⟩
  · have hB := hB.2 c
    refine E_aload_n 0 dX11_freshenHits_7 rfl rfl rfl ?_
    refine E_gR (j := 5) fG_X11_28 rfl (lo_1 hL) (lr_1_2 hL) (by decide) dX11_freshenHits_8 ?_
    refine E_aload_n 0 dX11_freshenHits_11 rfl rfl rfl ?_
    refine E_gR (j := sR G 1 8) fG_X11_72 rfl (lo_1 hL) rfl (lhP (ly_8 hL)) dX11_freshenHits_12 ?_
    refine E_aload_n 0 dX11_freshenHits_15 rfl rfl rfl ?_
    refine E_gR (j := sR G 1 10) fG_X11_82 rfl (lo_1 hL) rfl (ltP (ly_10 hL)) dX11_freshenHits_16 ?_
    refine E_aload_n 0 dX11_freshenHits_19 rfl rfl rfl ?_
    refine E_cV (ci := 10) (as := []) (st := [.ref (sR G 1 10), .ref (sR G 1 8), .ref 5]) cm_X11_seen cV_X11_171 ⟨_, _, rfl⟩ (by decide) (lo_1 hL) rfl rfl (by decide) (Nat.le_of_ble_eq_true rfl) (Nat.le_of_ble_eq_true rfl) dX11_freshenHits_20 hB (fun r G1 hr => ?_)
    obtain ⟨r1, rfl, hE1, hB⟩ := hr
    have hL1 : Lay G1.2.2 := by rw [hE1]; exact hL
    have hE1 : G1.2.2 = G.2.2 := hE1
    show Ev K mX11_freshenHits 5 23 [(0, .ref 1)] [.int r1, .ref (sR G 1 10), .ref (sR G 1 8), .ref 5] G1 _
    refine E_cV (ci := 0) (as := [.ref (sR G 1 8), .ref (sR G 1 10), .int r1]) (st := []) cm_X0_fill cV_X11_373 ⟨_, _, rfl⟩ (by decide) (lo_5 hL1) rfl rfl (by decide) (Nat.le_of_ble_eq_true rfl) (Nat.le_of_ble_eq_true rfl) dX11_freshenHits_23 hB (fun r G2 hr => ?_)
    obtain ⟨rfl, hE2, hB⟩ := hr
    have hL2 : Lay G2.2.2 := by rw [hE2]; exact hL1
    have hE2 : G2.2.2 = G.2.2 := hE2.trans hE1
    show Ev K mX11_freshenHits 5 26 [(0, .ref 1)] [] G2 _
    refine E_aload_n 0 dX11_freshenHits_26 rfl rfl rfl ?_
    refine E_iconst (v := 1) dX11_freshenHits_27 (by decide) ?_
    refine E_pZ fP_X11_367 rfl (lo_1 hL2) (Or.inr rfl) dX11_freshenHits_28 ?_
    exact E_vret rfl dX11_freshenHits_31 ⟨rfl, hE2, hB⟩

set_option maxRecDepth 20000 in
set_option maxHeartbeats 2000000 in
theorem kX11_freshenTies_0 {K : KT} {G : St} {Q : St → Prop}  (hL : Lay G.2.2) 
    (hB : ((¬ (sI G 1 15) = 0 → Q G) ∧ ((sI G 1 15) = 0 → EvI K mX11_seen 2 0 [(0, .ref 1)] [] G (fun r1 G1 => EvV K mX9_fill 4 0 [(0, .ref 11), (1, .ref (sR G 1 8)), (2, .ref 14), (3, .int r1)] [] G1 (fun G2 => Q (uI G2 1 15 1)))))) :
    EvV K mX11_freshenTies 5 0 [(0, .ref 1)] [] G Q := by
  refine E_aload_n 0 dX11_freshenTies_0 rfl rfl rfl ?_
  refine E_gI (v := sI G 1 15) fG_X11_320 rfl (lo_1 hL) rfl dX11_freshenTies_1 ?_
  refine E_if_ne (tgt := 31) dX11_freshenTies_4 (by decide) (fun c => ?_) (fun c => ?_)
  · have hB := hB.1 c
    exact E_vret rfl dX11_freshenTies_31 ⟨rfl, rfl, hB⟩
  · have hB := hB.2 c
    refine E_aload_n 0 dX11_freshenTies_7 rfl rfl rfl ?_
    refine E_gR (j := 11) fG_X11_35 rfl (lo_1 hL) (lr_1_3 hL) (by decide) dX11_freshenTies_8 ?_
    refine E_aload_n 0 dX11_freshenTies_11 rfl rfl rfl ?_
    refine E_gR (j := sR G 1 8) fG_X11_72 rfl (lo_1 hL) rfl (lhP (ly_8 hL)) dX11_freshenTies_12 ?_
    refine E_aload_n 0 dX11_freshenTies_15 rfl rfl rfl ?_
    refine E_gR (j := 14) fG_X11_42 rfl (lo_1 hL) (lr_1_4 hL) (by decide) dX11_freshenTies_16 ?_
    refine E_aload_n 0 dX11_freshenTies_19 rfl rfl rfl ?_
    refine E_cV (ci := 10) (as := []) (st := [.ref 14, .ref (sR G 1 8), .ref 11]) cm_X11_seen cV_X11_171 ⟨_, _, rfl⟩ (by decide) (lo_1 hL) rfl rfl (by decide) (Nat.le_of_ble_eq_true rfl) (Nat.le_of_ble_eq_true rfl) dX11_freshenTies_20 hB (fun r G1 hr => ?_)
    obtain ⟨r1, rfl, hE1, hB⟩ := hr
    have hL1 : Lay G1.2.2 := by rw [hE1]; exact hL
    have hE1 : G1.2.2 = G.2.2 := hE1
    show Ev K mX11_freshenTies 5 23 [(0, .ref 1)] [.int r1, .ref 14, .ref (sR G 1 8), .ref 11] G1 _
    refine E_cV (ci := 9) (as := [.ref (sR G 1 8), .ref 14, .int r1]) (st := []) cm_X9_fill cV_X11_376 ⟨_, _, rfl⟩ (by decide) (lo_11 hL1) rfl rfl (by decide) (Nat.le_of_ble_eq_true rfl) (Nat.le_of_ble_eq_true rfl) dX11_freshenTies_23 hB (fun r G2 hr => ?_)
    obtain ⟨rfl, hE2, hB⟩ := hr
    have hL2 : Lay G2.2.2 := by rw [hE2]; exact hL1
    have hE2 : G2.2.2 = G.2.2 := hE2.trans hE1
    show Ev K mX11_freshenTies 5 26 [(0, .ref 1)] [] G2 _
    refine E_aload_n 0 dX11_freshenTies_26 rfl rfl rfl ?_
    refine E_iconst (v := 1) dX11_freshenTies_27 (by decide) ?_
    refine E_pZ fP_X11_320 rfl (lo_1 hL2) (Or.inr rfl) dX11_freshenTies_28 ?_
    exact E_vret rfl dX11_freshenTies_31 ⟨rfl, hE2, hB⟩

set_option maxRecDepth 20000 in
set_option maxHeartbeats 2000000 in
theorem kX11_searched_0 {K : KT} {G : St} {Q : Int32 → St → Prop}  (hL : Lay G.2.2) 
    (hB : ((¬ (sI G (sR G 1 10) 2) = 0 → ((¬ (sI G 1 18) = 0 → Q 1 G) ∧ ((sI G 1 18) = 0 → EvV K mX11_freshenHits 5 0 [(0, .ref 1)] [] G (fun G1 => EvV K mX11_freshenTies 5 0 [(0, .ref 1)] [] G1 (fun G2 => EvI K mX11_seen 2 0 [(0, .ref 1)] [] G2 (fun r3 G3 => EvVa K mX6_run 9 0 [(0, .ref 18), (1, .int r3), (2, .int (sI G3 1 13)), (3, .int (sI G3 (sR G3 1 10) 2))] [] G3 (fun G4 => Lay G4.2.2 ∧ EvVa K mX4_fill 3 0 [(0, .ref 28), (1, .ref (sR G4 1 8)), (2, .ref 5), (3, .ref 18), (4, .int (sI G4 (sR G4 1 10) 2))] [] G4 (fun G5 => Lay G5.2.2 ∧ Q 1 (uI G5 1 18 1))))))))) ∧ ((sI G (sR G 1 10) 2) = 0 → Q 0 G))) :
    EvIa K mX11_searched 10 0 [(0, .ref 1)] [] G Q := by
  refine E_aload_n 0 dX11_searched_0 rfl rfl rfl ?_
  refine E_gR (j := sR G 1 10) fG_X11_82 rfl (lo_1 hL) rfl (ltP (ly_10 hL)) dX11_searched_1 ?_
  refine E_gI (v := sI G (sR G 1 10) 2) fG_X11_326 rfl (ltO hL (ly_10 hL)) rfl dX11_searched_4 ?_
  refine E_if_ne (tgt := 12) dX11_searched_7 (by decide) (fun c => ?_) (fun c => ?_)
  · have hB := hB.1 c
    refine E_aload_n 0 dX11_searched_12 rfl rfl rfl ?_
    refine E_gI (v := sI G 1 18) fG_X11_154 rfl (lo_1 hL) rfl dX11_searched_13 ?_
    refine E_if_ne (tgt := 80) dX11_searched_16 (by decide) (fun c => ?_) (fun c => ?_)
    · have hB := hB.1 c
      refine E_iconst (v := 1) dX11_searched_80 (by decide) ?_
      exact E_zret rfl (Or.inr rfl) dX11_searched_81 ⟨_, rfl, hB⟩
    · have hB := hB.2 c
      refine E_aload_n 0 dX11_searched_19 rfl rfl rfl ?_
      refine E_cV (ci := 10) (as := []) (st := []) cm_X11_freshenHits cV_X11_198 ⟨_, _, rfl⟩ (by decide) (lo_1 hL) rfl rfl (by decide) (Nat.le_of_ble_eq_true rfl) (Nat.le_of_ble_eq_true rfl) dX11_searched_20 hB (fun r G1 hr => ?_)
      obtain ⟨rfl, hE1, hB⟩ := hr
      have hL1 : Lay G1.2.2 := by rw [hE1]; exact hL
      show Ev K mX11_searched 10 23 [(0, .ref 1)] [] G1 _
      refine E_aload_n 0 dX11_searched_23 rfl rfl rfl ?_
      refine E_cV (ci := 10) (as := []) (st := []) cm_X11_freshenTies cV_X11_212 ⟨_, _, rfl⟩ (by decide) (lo_1 hL1) rfl rfl (by decide) (Nat.le_of_ble_eq_true rfl) (Nat.le_of_ble_eq_true rfl) dX11_searched_24 hB (fun r G2 hr => ?_)
      obtain ⟨rfl, hE2, hB⟩ := hr
      have hL2 : Lay G2.2.2 := by rw [hE2]; exact hL1
      show Ev K mX11_searched 10 27 [(0, .ref 1)] [] G2 _
      refine E_aload_n 0 dX11_searched_27 rfl rfl rfl ?_
      refine E_gR (j := 18) fG_X11_51 rfl (lo_1 hL2) (lr_1_5 hL2) (by decide) dX11_searched_28 ?_
      refine E_aload_n 0 dX11_searched_31 rfl rfl rfl ?_
      refine E_cV (ci := 10) (as := []) (st := [.ref 18]) cm_X11_seen cV_X11_171 ⟨_, _, rfl⟩ (by decide) (lo_1 hL2) rfl rfl (by decide) (Nat.le_of_ble_eq_true rfl) (Nat.le_of_ble_eq_true rfl) dX11_searched_32 hB (fun r G3 hr => ?_)
      obtain ⟨r3, rfl, hE3, hB⟩ := hr
      have hL3 : Lay G3.2.2 := by rw [hE3]; exact hL2
      show Ev K mX11_searched 10 35 [(0, .ref 1)] [.int r3, .ref 18] G3 _
      refine E_aload_n 0 dX11_searched_35 rfl rfl rfl ?_
      refine E_gI (v := sI G3 1 13) fG_X11_93 rfl (lo_1 hL3) rfl dX11_searched_36 ?_
      refine E_aload_n 0 dX11_searched_39 rfl rfl rfl ?_
      refine E_gR (j := sR G3 1 10) fG_X11_82 rfl (lo_1 hL3) rfl (ltP (ly_10 hL3)) dX11_searched_40 ?_
      refine E_gI (v := sI G3 (sR G3 1 10) 2) fG_X11_326 rfl (ltO hL3 (ly_10 hL3)) rfl dX11_searched_43 ?_
      refine E_cV (ci := 6) (as := [.int r3, .int (sI G3 1 13), .int (sI G3 (sR G3 1 10) 2)]) (st := []) cm_X6_run cV_X11_382 ⟨_, _, rfl⟩ (by decide) (lo_18 hL3) rfl rfl (by decide) (Nat.le_of_ble_eq_true rfl) (Nat.le_of_ble_eq_true rfl) dX11_searched_46 hB (fun r G4 hr => ?_)
      obtain ⟨rfl, hL4, hB⟩ := hr
      show Ev K mX11_searched 10 49 [(0, .ref 1)] [] G4 _
      refine E_aload_n 0 dX11_searched_49 rfl rfl rfl ?_
      refine E_gR (j := 28) fG_X11_58 rfl (lo_1 hL4) (lr_1_6 hL4) (by decide) dX11_searched_50 ?_
      refine E_aload_n 0 dX11_searched_53 rfl rfl rfl ?_
      refine E_gR (j := sR G4 1 8) fG_X11_72 rfl (lo_1 hL4) rfl (lhP (ly_8 hL4)) dX11_searched_54 ?_
      refine E_aload_n 0 dX11_searched_57 rfl rfl rfl ?_
      refine E_gR (j := 5) fG_X11_28 rfl (lo_1 hL4) (lr_1_2 hL4) (by decide) dX11_searched_58 ?_
      refine E_aload_n 0 dX11_searched_61 rfl rfl rfl ?_
      refine E_gR (j := 18) fG_X11_51 rfl (lo_1 hL4) (lr_1_5 hL4) (by decide) dX11_searched_62 ?_
      refine E_aload_n 0 dX11_searched_65 rfl rfl rfl ?_
      refine E_gR (j := sR G4 1 10) fG_X11_82 rfl (lo_1 hL4) rfl (ltP (ly_10 hL4)) dX11_searched_66 ?_
      refine E_gI (v := sI G4 (sR G4 1 10) 2) fG_X11_326 rfl (ltO hL4 (ly_10 hL4)) rfl dX11_searched_69 ?_
      refine E_cV (ci := 4) (as := [.ref (sR G4 1 8), .ref 5, .ref 18, .int (sI G4 (sR G4 1 10) 2)]) (st := []) cm_X4_fill cV_X11_386 ⟨_, _, rfl⟩ (by decide) (lo_28 hL4) rfl rfl (by decide) (Nat.le_of_ble_eq_true rfl) (Nat.le_of_ble_eq_true rfl) dX11_searched_72 hB (fun r G5 hr => ?_)
      obtain ⟨rfl, hL5, hB⟩ := hr
      show Ev K mX11_searched 10 75 [(0, .ref 1)] [] G5 _
      refine E_aload_n 0 dX11_searched_75 rfl rfl rfl ?_
      refine E_iconst (v := 1) dX11_searched_76 (by decide) ?_
      refine E_pZ fP_X11_154 rfl (lo_1 hL5) (Or.inr rfl) dX11_searched_77 ?_
      refine E_iconst (v := 1) dX11_searched_80 (by decide) ?_
      exact E_zret rfl (Or.inr rfl) dX11_searched_81 ⟨_, rfl, hB⟩
  · have hB := hB.2 c
    refine E_iconst (v := 0) dX11_searched_10 (by decide) ?_
    exact E_zret rfl (Or.inl rfl) dX11_searched_11 ⟨_, rfl, hB⟩

set_option maxRecDepth 20000 in
set_option maxHeartbeats 2000000 in
theorem kX11_question_0 {K : KT} {G : St} {Q : Int32 → St → Prop}  (hL : Lay G.2.2) 
    (hB : EvI K mX5_readQuestion 5 0 [(0, .ref 4), (1, .ref (sR G 1 8)), (2, .ref (sR G 1 11))] [] G (fun r1 G1 => EvV K mX7_empty 0 0 [(0, .ref 2)] [] G1 (fun G2 => ((r1 = 0 → EvIa K mX11_searched 10 0 [(0, .ref 1)] [] G2 (fun r3 G3 => Lay G3.2.2 ∧ ((r3 = 0 → Q (-1) G3) ∧ (¬ r3 = 0 → EvI K mX8_same 0 0 [(0, .ref (sR G3 1 11)), (1, .ref (sR G3 1 10))] [] G3 (fun r4 G4 => ((¬ r4 = 0 → EvI K mX4_find 2 0 [(0, .ref 28), (1, .int (sI G4 4 1))] [] G4 (fun r5 G5 => Q r5 G5)) ∧ (r4 = 0 → Q (-1) G4))))))) ∧ (¬ r1 = 0 → Q (100000 + r1) G2))))) :
    EvIa K mX11_question 11 0 [(0, .ref 1)] [] G Q := by
  refine E_aload_n 0 dX11_question_0 rfl rfl rfl ?_
  refine E_gR (j := 4) fG_X11_21 rfl (lo_1 hL) (lr_1_1 hL) (by decide) dX11_question_1 ?_
  refine E_aload_n 0 dX11_question_4 rfl rfl rfl ?_
  refine E_gR (j := sR G 1 8) fG_X11_72 rfl (lo_1 hL) rfl (lhP (ly_8 hL)) dX11_question_5 ?_
  refine E_aload_n 0 dX11_question_8 rfl rfl rfl ?_
  refine E_gR (j := sR G 1 11) fG_X11_86 rfl (lo_1 hL) rfl (ltP (ly_11 hL)) dX11_question_9 ?_
  refine E_cV (ci := 5) (as := [.ref (sR G 1 8), .ref (sR G 1 11)]) (st := []) cm_X5_readQuestion cV_X11_134 ⟨_, _, rfl⟩ (by decide) (lo_4 hL) rfl rfl (by decide) (Nat.le_of_ble_eq_true rfl) (Nat.le_of_ble_eq_true rfl) dX11_question_12 hB (fun r G1 hr => ?_)
  obtain ⟨r1, rfl, hE1, hB⟩ := hr
  have hL1 : Lay G1.2.2 := by rw [hE1]; exact hL
  show Ev K mX11_question 11 15 [(0, .ref 1)] [.int r1] G1 _
  refine E_istore_n (lv' := [(0, .ref 1), (1, .int r1)]) dX11_question_15 rfl (by decide) rfl ?_
  refine E_aload_n 0 dX11_question_16 rfl rfl rfl ?_
  refine E_gR (j := 2) fG_X11_10 rfl (lo_1 hL1) (lr_1_0 hL1) (by decide) dX11_question_17 ?_
  refine E_cV (ci := 7) (as := []) (st := []) cm_X7_empty cV_X11_108 ⟨_, _, rfl⟩ (by decide) (lo_2 hL1) rfl rfl (by decide) (Nat.le_of_ble_eq_true rfl) (Nat.le_of_ble_eq_true rfl) dX11_question_20 hB (fun r G2 hr => ?_)
  obtain ⟨rfl, hE2, hB⟩ := hr
  have hL2 : Lay G2.2.2 := by rw [hE2]; exact hL1
  show Ev K mX11_question 11 23 [(0, .ref 1), (1, .int r1)] [] G2 _
  refine E_iload_n 1 dX11_question_23 rfl rfl ?_
  refine E_if_eq (tgt := 32) dX11_question_24 (by decide) (fun c => ?_) (fun c => ?_)
  · have hB := hB.1 c
    refine E_aload_n 0 dX11_question_32 rfl rfl rfl ?_
    refine E_cV (ci := 10) (as := []) (st := []) cm_X11_searched cV_X11_139 ⟨_, _, rfl⟩ (by decide) (lo_1 hL2) rfl rfl (by decide) (Nat.le_of_ble_eq_true rfl) (Nat.le_of_ble_eq_true rfl) dX11_question_33 hB (fun r G3 hr => ?_)
    obtain ⟨r3, rfl, hL3, hB⟩ := hr
    show Ev K mX11_question 11 36 [(0, .ref 1), (1, .int r1)] [.int r3] G3 _
    refine E_if_eq (tgt := 53) dX11_question_36 (by decide) (fun c => ?_) (fun c => ?_)
    · have hB := hB.1 c
      refine E_iconst (v := (-1)) dX11_question_53 (by decide) ?_
      exact E_iret rfl dX11_question_54 ⟨_, rfl, hB⟩
    · have hB := hB.2 c
      refine E_aload_n 0 dX11_question_39 rfl rfl rfl ?_
      refine E_gR (j := sR G3 1 11) fG_X11_86 rfl (lo_1 hL3) rfl (ltP (ly_11 hL3)) dX11_question_40 ?_
      refine E_aload_n 0 dX11_question_43 rfl rfl rfl ?_
      refine E_gR (j := sR G3 1 10) fG_X11_82 rfl (lo_1 hL3) rfl (ltP (ly_10 hL3)) dX11_question_44 ?_
      refine E_cV (ci := 8) (as := [.ref (sR G3 1 10)]) (st := []) cm_X8_same cV_X11_143 ⟨_, _, rfl⟩ (by decide) (ltO hL3 (ly_11 hL3)) rfl rfl (by decide) (Nat.le_of_ble_eq_true rfl) (Nat.le_of_ble_eq_true rfl) dX11_question_47 hB (fun r G4 hr => ?_)
      obtain ⟨r4, rfl, hE4, hB⟩ := hr
      have hL4 : Lay G4.2.2 := by rw [hE4]; exact hL3
      show Ev K mX11_question 11 50 [(0, .ref 1), (1, .int r1)] [.int r4] G4 _
      refine E_if_ne (tgt := 55) dX11_question_50 (by decide) (fun c => ?_) (fun c => ?_)
      · have hB := hB.1 c
        refine E_aload_n 0 dX11_question_55 rfl rfl rfl ?_
        refine E_gR (j := 28) fG_X11_58 rfl (lo_1 hL4) (lr_1_6 hL4) (by decide) dX11_question_56 ?_
        refine E_aload_n 0 dX11_question_59 rfl rfl rfl ?_
        refine E_gR (j := 4) fG_X11_21 rfl (lo_1 hL4) (lr_1_1 hL4) (by decide) dX11_question_60 ?_
        refine E_gI (v := sI G4 4 1) fG_X11_147 rfl (lo_4 hL4) rfl dX11_question_63 ?_
        refine E_cV (ci := 4) (as := [.int (sI G4 4 1)]) (st := []) cm_X4_find cV_X11_150 ⟨_, _, rfl⟩ (by decide) (lo_28 hL4) rfl rfl (by decide) (Nat.le_of_ble_eq_true rfl) (Nat.le_of_ble_eq_true rfl) dX11_question_66 hB (fun r G5 hr => ?_)
        obtain ⟨r5, rfl, hE5, hB⟩ := hr
        have hL5 : Lay G5.2.2 := by rw [hE5]; exact hL4
        show Ev K mX11_question 11 69 [(0, .ref 1), (1, .int r1)] [.int r5] G5 _
        exact E_iret rfl dX11_question_69 ⟨_, rfl, hB⟩
      · have hB := hB.2 c
        refine E_iconst (v := (-1)) dX11_question_53 (by decide) ?_
        exact E_iret rfl dX11_question_54 ⟨_, rfl, hB⟩
  · have hB := hB.2 c
    refine E_ldc (v := 100000) tm_667 dX11_question_27 ?_
    refine E_iload_n 1 dX11_question_29 rfl rfl ?_
    refine E_iadd dX11_question_30 ?_
    exact E_iret rfl dX11_question_31 ⟨_, rfl, hB⟩

set_option maxRecDepth 20000 in
set_option maxHeartbeats 2000000 in
theorem kX11_width_0 {K : KT} {G : St} {Q : Int32 → St → Prop} {x1 : Int32} (hL : Lay G.2.2) 
    (hB : ((x1 < 1 → Q 0 G) ∧ (¬ x1 < 1 → ((x1 ≤ 5 → ((x1 = (sI G 1 13) → Q 1 G) ∧ (¬ x1 = (sI G 1 13) → Q 1 (uI (uI G 1 13 x1) 1 18 0)))) ∧ (¬ x1 ≤ 5 → Q 0 G))))) :
    EvI K mX11_width 0 0 [(0, .ref 1), (1, .int x1)] [] G Q := by
  refine E_iload_n 1 dX11_width_0 rfl rfl ?_
  refine E_iconst (v := 1) dX11_width_1 (by decide) ?_
  refine E_icmp_lt (tgt := 10) dX11_width_2 (by decide) (fun c => ?_) (fun c => ?_)
  · have hB := hB.1 c
    refine E_iconst (v := 0) dX11_width_10 (by decide) ?_
    exact E_zret rfl (Or.inl rfl) dX11_width_11 ⟨_, rfl, rfl, hB⟩
  · have hB := hB.2 c
    refine E_iload_n 1 dX11_width_5 rfl rfl ?_
    refine E_iconst (v := 5) dX11_width_6 (by decide) ?_
    refine E_icmp_le (tgt := 12) dX11_width_7 (by decide) (fun c => ?_) (fun c => ?_)
    · have hB := hB.1 c
      refine E_iload_n 1 dX11_width_12 rfl rfl ?_
      refine E_aload_n 0 dX11_width_13 rfl rfl rfl ?_
      refine E_gI (v := sI G 1 13) fG_X11_93 rfl (lo_1 hL) rfl dX11_width_14 ?_
      refine E_icmp_eq (tgt := 30) dX11_width_17 (by decide) (fun c => ?_) (fun c => ?_)
      · have hB := hB.1 c
        refine E_iconst (v := 1) dX11_width_30 (by decide) ?_
        exact E_zret rfl (Or.inr rfl) dX11_width_31 ⟨_, rfl, rfl, hB⟩
      · have hB := hB.2 c
        refine E_aload_n 0 dX11_width_20 rfl rfl rfl ?_
        refine E_iload_n 1 dX11_width_21 rfl rfl ?_
        refine E_pI fP_X11_93 rfl (lo_1 hL) dX11_width_22 ?_
        refine E_aload_n 0 dX11_width_25 rfl rfl rfl ?_
        refine E_iconst (v := 0) dX11_width_26 (by decide) ?_
        refine E_pZ fP_X11_154 rfl (lo_1 hL) (Or.inl rfl) dX11_width_27 ?_
        refine E_iconst (v := 1) dX11_width_30 (by decide) ?_
        exact E_zret rfl (Or.inr rfl) dX11_width_31 ⟨_, rfl, rfl, hB⟩
    · have hB := hB.2 c
      refine E_iconst (v := 0) dX11_width_10 (by decide) ?_
      exact E_zret rfl (Or.inl rfl) dX11_width_11 ⟨_, rfl, rfl, hB⟩

set_option maxRecDepth 20000 in
set_option maxHeartbeats 2000000 in
theorem kX11_isSeen_0 {K : KT} {G : St} {Q : Int32 → St → Prop} {x1 : Int32} (hL : Lay G.2.2) 
    (hB : EvI K mX1_isTold 0 0 [(0, .ref (sR G 1 8)), (1, .int x1)] [] G (fun r1 G1 => ((r1 = 0 → Q 0 G1) ∧ (¬ r1 = 0 → EvI K mX11_seen 2 0 [(0, .ref 1)] [] G1 (fun r2 G2 => ((((r2 >>> (x1 &&& 31)) &&& 1) = 0 → Q 0 G2) ∧ (¬ ((r2 >>> (x1 &&& 31)) &&& 1) = 0 → Q 1 G2))))))) :
    EvI K mX11_isSeen 3 0 [(0, .ref 1), (1, .int x1)] [] G Q := by
  refine E_aload_n 0 dX11_isSeen_0 rfl rfl rfl ?_
  refine E_gR (j := sR G 1 8) fG_X11_72 rfl (lo_1 hL) rfl (lhP (ly_8 hL)) dX11_isSeen_1 ?_
  refine E_iload_n 1 dX11_isSeen_4 rfl rfl ?_
  refine E_cV (ci := 1) (as := [.int x1]) (st := []) cm_X1_isTold cV_X11_158 ⟨_, _, rfl⟩ (by decide) (lhO hL (ly_8 hL)) rfl rfl (by decide) (Nat.le_of_ble_eq_true rfl) (Nat.le_of_ble_eq_true rfl) dX11_isSeen_5 hB (fun r G1 hr => ?_)
  obtain ⟨r1, rfl, hE1, hB⟩ := hr
  have hL1 : Lay G1.2.2 := by rw [hE1]; exact hL
  have hE1 : G1.2.2 = G.2.2 := hE1
  show Ev K mX11_isSeen 3 8 [(0, .ref 1), (1, .int x1)] [.int r1] G1 _
  refine E_if_eq (tgt := 26) dX11_isSeen_8 (by decide) (fun c => ?_) (fun c => ?_)
  · have hB := hB.1 c
    refine E_iconst (v := 0) dX11_isSeen_26 (by decide) ?_
    exact E_zret rfl (Or.inl rfl) dX11_isSeen_27 ⟨_, rfl, hE1, hB⟩
  · have hB := hB.2 c
    refine E_aload_n 0 dX11_isSeen_11 rfl rfl rfl ?_
    refine E_cV (ci := 10) (as := []) (st := []) cm_X11_seen cV_X11_171 ⟨_, _, rfl⟩ (by decide) (lo_1 hL1) rfl rfl (by decide) (Nat.le_of_ble_eq_true rfl) (Nat.le_of_ble_eq_true rfl) dX11_isSeen_12 hB (fun r G2 hr => ?_)
    obtain ⟨r2, rfl, hE2, hB⟩ := hr
    have hL2 : Lay G2.2.2 := by rw [hE2]; exact hL1
    have hE2 : G2.2.2 = G.2.2 := hE2.trans hE1
    show Ev K mX11_isSeen 3 15 [(0, .ref 1), (1, .int x1)] [.int r2] G2 _
    refine E_iload_n 1 dX11_isSeen_15 rfl rfl ?_
    refine E_ishr dX11_isSeen_16 ?_
    refine E_iconst (v := 1) dX11_isSeen_17 (by decide) ?_
    refine E_iand dX11_isSeen_18 ?_
    refine E_if_eq (tgt := 26) dX11_isSeen_19 (by decide) (fun c => ?_) (fun c => ?_)
    · have hB := hB.1 c
      refine E_iconst (v := 0) dX11_isSeen_26 (by decide) ?_
      exact E_zret rfl (Or.inl rfl) dX11_isSeen_27 ⟨_, rfl, hE2, hB⟩
    · have hB := hB.2 c
      refine E_iconst (v := 1) dX11_isSeen_22 (by decide) ?_
      refine E_goto (tgt := 27) dX11_isSeen_23 (by decide) ?_
      exact E_zret rfl (Or.inr rfl) dX11_isSeen_27 ⟨_, rfl, hE2, hB⟩

set_option maxRecDepth 20000 in
set_option maxHeartbeats 2000000 in
theorem kX11_cell_0 {K : KT} {G : St} {Q : Int64 → St → Prop} {x1 : Int32} {x2 : Int32} (hL : Lay G.2.2) 
    (hB : EvI K mX11_isSeen 3 0 [(0, .ref 1), (1, .int x1)] [] G (fun r1 G1 => ((¬ r1 = 0 → EvI K mX1_kindAt 0 0 [(0, .ref (sR G1 1 8)), (1, .int x1), (2, .int x2)] [] G1 (fun r2 G2 => ((r2 = (-3) → Q (-1) G2) ∧ (r2 = (-2) → EvL K mX1_numberAt 1 0 [(0, .ref (sR G2 1 8)), (1, .int x1), (2, .int x2)] [] G2 (fun r3 G3 => Q r3 G3)) ∧ (r2 = (-1) → EvL K mX1_wordAt 1 0 [(0, .ref (sR G2 1 8)), (1, .int x1), (2, .int x2)] [] G2 (fun r4 G4 => Q r4 G4)) ∧ (¬ r2 = (-3) → ¬ r2 = (-2) → ¬ r2 = (-1) → EvI K mX11_seen 2 0 [(0, .ref 1)] [] G2 (fun r5 G5 => EvI K mX1_keyAt 1 0 [(0, .ref (sR G2 1 8)), (1, .int x1), (2, .int x2), (3, .int r5)] [] G5 (fun r6 G6 => Q (Int32.toInt64 r6) G6)))))) ∧ (r1 = 0 → Q (-1) G1)))) :
    EvL K mX11_cell 4 0 [(0, .ref 1), (1, .int x1), (2, .int x2)] [] G Q := by
  refine E_aload_n 0 dX11_cell_0 rfl rfl rfl ?_
  refine E_iload_n 1 dX11_cell_1 rfl rfl ?_
  refine E_cV (ci := 10) (as := [.int x1]) (st := []) cm_X11_isSeen cV_X11_175 ⟨_, _, rfl⟩ (by decide) (lo_1 hL) rfl rfl (by decide) (Nat.le_of_ble_eq_true rfl) (Nat.le_of_ble_eq_true rfl) dX11_cell_2 hB (fun r G1 hr => ?_)
  obtain ⟨r1, rfl, hE1, hB⟩ := hr
  have hL1 : Lay G1.2.2 := by rw [hE1]; exact hL
  have hE1 : G1.2.2 = G.2.2 := hE1
  show Ev K mX11_cell 4 5 [(0, .ref 1), (1, .int x1), (2, .int x2)] [.int r1] G1 _
  refine E_if_ne (tgt := 12) dX11_cell_5 (by decide) (fun c => ?_) (fun c => ?_)
  · have hB := hB.1 c
    refine E_aload_n 0 dX11_cell_12 rfl rfl rfl ?_
    refine E_gR (j := sR G1 1 8) fG_X11_72 rfl (lo_1 hL1) rfl (lhP (ly_8 hL1)) dX11_cell_13 ?_
    refine E_iload_n 1 dX11_cell_16 rfl rfl ?_
    refine E_iload_n 2 dX11_cell_17 rfl rfl ?_
    refine E_cV (ci := 1) (as := [.int x1, .int x2]) (st := []) cm_X1_kindAt cV_X11_180 ⟨_, _, rfl⟩ (by decide) (lhO hL1 (ly_8 hL1)) rfl rfl (by decide) (Nat.le_of_ble_eq_true rfl) (Nat.le_of_ble_eq_true rfl) dX11_cell_18 hB (fun r G2 hr => ?_)
    obtain ⟨r2, rfl, hE2, hB⟩ := hr
    have hL2 : Lay G2.2.2 := by rw [hE2]; exact hL1
    have hE2 : G2.2.2 = G.2.2 := hE2.trans hE1
    show Ev K mX11_cell 4 21 [(0, .ref 1), (1, .int x1), (2, .int x2)] [.int r2] G2 _
    obtain ⟨hA, hB⟩ := hB
    by_cases c0 : r2 = (-3)
    · have hB := hA c0
      refine E_tableIn (off := 27) (tgt := 48) dX11_cell_21 (by rw [c0]; decide) (by rw [c0]; decide) (by rw [c0]; decide) (by decide) ?_
      refine E_ldc2 (v := (-1)) tm_946 dX11_cell_48 ?_
      exact E_lret rfl dX11_cell_51 ⟨_, rfl, hE2, hB⟩
    obtain ⟨hA, hB⟩ := hB
    by_cases c1 : r2 = (-2)
    · have hB := hA c1
      refine E_tableIn (off := 41) (tgt := 62) dX11_cell_21 (by rw [c1]; decide) (by rw [c1]; decide) (by rw [c1]; decide) (by decide) ?_
      refine E_aload_n 0 dX11_cell_62 rfl rfl rfl ?_
      refine E_gR (j := sR G2 1 8) fG_X11_72 rfl (lo_1 hL2) rfl (lhP (ly_8 hL2)) dX11_cell_63 ?_
      refine E_iload_n 1 dX11_cell_66 rfl rfl ?_
      refine E_iload_n 2 dX11_cell_67 rfl rfl ?_
      refine E_cV (ci := 1) (as := [.int x1, .int x2]) (st := []) cm_X1_numberAt cV_X11_188 ⟨_, _, rfl⟩ (by decide) (lhO hL2 (ly_8 hL2)) rfl rfl (by decide) (Nat.le_of_ble_eq_true rfl) (Nat.le_of_ble_eq_true rfl) dX11_cell_68 hB (fun r G3 hr => ?_)
      obtain ⟨r3, rfl, hE3, hB⟩ := hr
      have hL3 : Lay G3.2.2 := by rw [hE3]; exact hL2
      have hE3 : G3.2.2 = G.2.2 := hE3.trans hE2
      show Ev K mX11_cell 4 71 [(0, .ref 1), (1, .int x1), (2, .int x2)] [.long r3] G3 _
      exact E_lret rfl dX11_cell_71 ⟨_, rfl, hE3, hB⟩
    obtain ⟨hA, hB⟩ := hB
    by_cases c2 : r2 = (-1)
    · have hB := hA c2
      refine E_tableIn (off := 31) (tgt := 52) dX11_cell_21 (by rw [c2]; decide) (by rw [c2]; decide) (by rw [c2]; decide) (by decide) ?_
      refine E_aload_n 0 dX11_cell_52 rfl rfl rfl ?_
      refine E_gR (j := sR G2 1 8) fG_X11_72 rfl (lo_1 hL2) rfl (lhP (ly_8 hL2)) dX11_cell_53 ?_
      refine E_iload_n 1 dX11_cell_56 rfl rfl ?_
      refine E_iload_n 2 dX11_cell_57 rfl rfl ?_
      refine E_cV (ci := 1) (as := [.int x1, .int x2]) (st := []) cm_X1_wordAt cV_X11_184 ⟨_, _, rfl⟩ (by decide) (lhO hL2 (ly_8 hL2)) rfl rfl (by decide) (Nat.le_of_ble_eq_true rfl) (Nat.le_of_ble_eq_true rfl) dX11_cell_58 hB (fun r G4 hr => ?_)
      obtain ⟨r4, rfl, hE4, hB⟩ := hr
      have hL4 : Lay G4.2.2 := by rw [hE4]; exact hL2
      have hE4 : G4.2.2 = G.2.2 := hE4.trans hE2
      show Ev K mX11_cell 4 61 [(0, .ref 1), (1, .int x1), (2, .int x2)] [.long r4] G4 _
      exact E_lret rfl dX11_cell_61 ⟨_, rfl, hE4, hB⟩
    have hB := hB c0 c1 c2
    refine E_tableOut (tgt := 72) dX11_cell_21 (tb_outZ (by decide) (by decide) (fun z z1 z2 => ?_)) (by decide) ?_
    · have z3 : z = -3 ∨ z = -2 ∨ z = -1 := by omega
      rcases z3 with rfl | rfl | rfl
      · exact fun q => c0 (q.trans (by decide))
      · exact fun q => c1 (q.trans (by decide))
      · exact fun q => c2 (q.trans (by decide))
    refine E_aload_n 0 dX11_cell_72 rfl rfl rfl ?_
    refine E_gR (j := sR G2 1 8) fG_X11_72 rfl (lo_1 hL2) rfl (lhP (ly_8 hL2)) dX11_cell_73 ?_
    refine E_iload_n 1 dX11_cell_76 rfl rfl ?_
    refine E_iload_n 2 dX11_cell_77 rfl rfl ?_
    refine E_aload_n 0 dX11_cell_78 rfl rfl rfl ?_
    refine E_cV (ci := 10) (as := []) (st := [.int x2, .int x1, .ref (sR G2 1 8)]) cm_X11_seen cV_X11_171 ⟨_, _, rfl⟩ (by decide) (lo_1 hL2) rfl rfl (by decide) (Nat.le_of_ble_eq_true rfl) (Nat.le_of_ble_eq_true rfl) dX11_cell_79 hB (fun r G5 hr => ?_)
    obtain ⟨r5, rfl, hE5, hB⟩ := hr
    have hL5 : Lay G5.2.2 := by rw [hE5]; exact hL2
    have hE5 : G5.2.2 = G.2.2 := hE5.trans hE2
    show Ev K mX11_cell 4 82 [(0, .ref 1), (1, .int x1), (2, .int x2)] [.int r5, .int x2, .int x1, .ref (sR G2 1 8)] G5 _
    refine E_cV (ci := 1) (as := [.int x1, .int x2, .int r5]) (st := []) cm_X1_keyAt cV_X11_191 ⟨_, _, rfl⟩ (by decide) (lhO hL5 (ly_8 hL2)) rfl rfl (by decide) (Nat.le_of_ble_eq_true rfl) (Nat.le_of_ble_eq_true rfl) dX11_cell_82 hB (fun r G6 hr => ?_)
    obtain ⟨r6, rfl, hE6, hB⟩ := hr
    have hL6 : Lay G6.2.2 := by rw [hE6]; exact hL5
    have hE6 : G6.2.2 = G.2.2 := hE6.trans hE5
    show Ev K mX11_cell 4 85 [(0, .ref 1), (1, .int x1), (2, .int x2)] [.int r6] G6 _
    refine E_i2l dX11_cell_85 rfl ?_
    exact E_lret rfl dX11_cell_86 ⟨_, rfl, hE6, hB⟩
  · have hB := hB.2 c
    refine E_ldc2 (v := (-1)) tm_946 dX11_cell_8 ?_
    exact E_lret rfl dX11_cell_11 ⟨_, rfl, hE1, hB⟩

set_option maxRecDepth 20000 in
set_option maxHeartbeats 2000000 in
theorem kX11_isTerm_0 {K : KT} {G : St} {Q : Int32 → St → Prop} {x1 : Int32} (hL : Lay G.2.2) 
    (hB : ((x1 < 0 → Q 0 G) ∧ (¬ x1 < 0 → (((sI G (sR G 1 10) 2) ≤ x1 → Q 0 G) ∧ (¬ (sI G (sR G 1 10) 2) ≤ x1 → Q 1 G))))) :
    EvI K mX11_isTerm 0 0 [(0, .ref 1), (1, .int x1)] [] G Q := by
  refine E_iload_n 1 dX11_isTerm_0 rfl rfl ?_
  refine E_if_lt (tgt := 19) dX11_isTerm_1 (by decide) (fun c => ?_) (fun c => ?_)
  · have hB := hB.1 c
    refine E_iconst (v := 0) dX11_isTerm_19 (by decide) ?_
    exact E_zret rfl (Or.inl rfl) dX11_isTerm_20 ⟨_, rfl, rfl, hB⟩
  · have hB := hB.2 c
    refine E_iload_n 1 dX11_isTerm_4 rfl rfl ?_
    refine E_aload_n 0 dX11_isTerm_5 rfl rfl rfl ?_
    refine E_gR (j := sR G 1 10) fG_X11_82 rfl (lo_1 hL) rfl (ltP (ly_10 hL)) dX11_isTerm_6 ?_
    refine E_gI (v := sI G (sR G 1 10) 2) fG_X11_326 rfl (ltO hL (ly_10 hL)) rfl dX11_isTerm_9 ?_
    refine E_icmp_ge (tgt := 19) dX11_isTerm_12 (by decide) (fun c => ?_) (fun c => ?_)
    · have hB := hB.1 c
      refine E_iconst (v := 0) dX11_isTerm_19 (by decide) ?_
      exact E_zret rfl (Or.inl rfl) dX11_isTerm_20 ⟨_, rfl, rfl, hB⟩
    · have hB := hB.2 c
      refine E_iconst (v := 1) dX11_isTerm_15 (by decide) ?_
      refine E_goto (tgt := 20) dX11_isTerm_16 (by decide) ?_
      exact E_zret rfl (Or.inr rfl) dX11_isTerm_20 ⟨_, rfl, rfl, hB⟩

set_option maxRecDepth 20000 in
set_option maxHeartbeats 2000000 in
theorem kX11_holds_0 {K : KT} {G : St} {Q : Int32 → St → Prop} {x1 : Int32} {x2 : Int32} (hL : Lay G.2.2) 
    (hB : EvI K mX11_isTerm 0 0 [(0, .ref 1), (1, .int x2)] [] G (fun r1 G1 => ((r1 = 0 → Q (-1) G1) ∧ (¬ r1 = 0 → EvI K mX11_isSeen 3 0 [(0, .ref 1), (1, .int x1)] [] G1 (fun r2 G2 => ((¬ r2 = 0 → EvV K mX11_freshenHits 5 0 [(0, .ref 1)] [] G2 (fun G3 => EvI K mX0_priceAt 0 0 [(0, .ref 5), (1, .int x1), (2, .int x2)] [] G3 (fun r4 G4 => Q r4 G4))) ∧ (r2 = 0 → Q (-1) G2))))))) :
    EvI K mX11_holds 6 0 [(0, .ref 1), (1, .int x1), (2, .int x2)] [] G Q := by
  refine E_aload_n 0 dX11_holds_0 rfl rfl rfl ?_
  refine E_iload_n 2 dX11_holds_1 rfl rfl ?_
  refine E_cV (ci := 10) (as := [.int x2]) (st := []) cm_X11_isTerm cV_X11_195 ⟨_, _, rfl⟩ (by decide) (lo_1 hL) rfl rfl (by decide) (Nat.le_of_ble_eq_true rfl) (Nat.le_of_ble_eq_true rfl) dX11_holds_2 hB (fun r G1 hr => ?_)
  obtain ⟨r1, rfl, hE1, hB⟩ := hr
  have hL1 : Lay G1.2.2 := by rw [hE1]; exact hL
  have hE1 : G1.2.2 = G.2.2 := hE1
  show Ev K mX11_holds 6 5 [(0, .ref 1), (1, .int x1), (2, .int x2)] [.int r1] G1 _
  refine E_if_eq (tgt := 16) dX11_holds_5 (by decide) (fun c => ?_) (fun c => ?_)
  · have hB := hB.1 c
    refine E_iconst (v := (-1)) dX11_holds_16 (by decide) ?_
    exact E_iret rfl dX11_holds_17 ⟨_, rfl, hE1, hB⟩
  · have hB := hB.2 c
    refine E_aload_n 0 dX11_holds_8 rfl rfl rfl ?_
    refine E_iload_n 1 dX11_holds_9 rfl rfl ?_
    refine E_cV (ci := 10) (as := [.int x1]) (st := []) cm_X11_isSeen cV_X11_175 ⟨_, _, rfl⟩ (by decide) (lo_1 hL1) rfl rfl (by decide) (Nat.le_of_ble_eq_true rfl) (Nat.le_of_ble_eq_true rfl) dX11_holds_10 hB (fun r G2 hr => ?_)
    obtain ⟨r2, rfl, hE2, hB⟩ := hr
    have hL2 : Lay G2.2.2 := by rw [hE2]; exact hL1
    have hE2 : G2.2.2 = G.2.2 := hE2.trans hE1
    show Ev K mX11_holds 6 13 [(0, .ref 1), (1, .int x1), (2, .int x2)] [.int r2] G2 _
    refine E_if_ne (tgt := 18) dX11_holds_13 (by decide) (fun c => ?_) (fun c => ?_)
    · have hB := hB.1 c
      refine E_aload_n 0 dX11_holds_18 rfl rfl rfl ?_
      refine E_cV (ci := 10) (as := []) (st := []) cm_X11_freshenHits cV_X11_198 ⟨_, _, rfl⟩ (by decide) (lo_1 hL2) rfl rfl (by decide) (Nat.le_of_ble_eq_true rfl) (Nat.le_of_ble_eq_true rfl) dX11_holds_19 hB (fun r G3 hr => ?_)
      obtain ⟨rfl, hE3, hB⟩ := hr
      have hL3 : Lay G3.2.2 := by rw [hE3]; exact hL2
      have hE3 : G3.2.2 = G.2.2 := hE3.trans hE2
      show Ev K mX11_holds 6 22 [(0, .ref 1), (1, .int x1), (2, .int x2)] [] G3 _
      refine E_aload_n 0 dX11_holds_22 rfl rfl rfl ?_
      refine E_gR (j := 5) fG_X11_28 rfl (lo_1 hL3) (lr_1_2 hL3) (by decide) dX11_holds_23 ?_
      refine E_iload_n 1 dX11_holds_26 rfl rfl ?_
      refine E_iload_n 2 dX11_holds_27 rfl rfl ?_
      refine E_cV (ci := 0) (as := [.int x1, .int x2]) (st := []) cm_X0_priceAt cV_X11_201 ⟨_, _, rfl⟩ (by decide) (lo_5 hL3) rfl rfl (by decide) (Nat.le_of_ble_eq_true rfl) (Nat.le_of_ble_eq_true rfl) dX11_holds_28 hB (fun r G4 hr => ?_)
      obtain ⟨r4, rfl, hE4, hB⟩ := hr
      have hL4 : Lay G4.2.2 := by rw [hE4]; exact hL3
      have hE4 : G4.2.2 = G.2.2 := hE4.trans hE3
      show Ev K mX11_holds 6 31 [(0, .ref 1), (1, .int x1), (2, .int x2)] [.int r4] G4 _
      exact E_iret rfl dX11_holds_31 ⟨_, rfl, hE4, hB⟩
    · have hB := hB.2 c
      refine E_iconst (v := (-1)) dX11_holds_16 (by decide) ?_
      exact E_iret rfl dX11_holds_17 ⟨_, rfl, hE2, hB⟩

set_option maxRecDepth 20000 in
set_option maxHeartbeats 2000000 in
theorem kX11_found_0 {K : KT} {G : St} {Q : Int32 → St → Prop} {x1 : Int32} (hL : Lay G.2.2) 
    (hB : EvI K mX11_isTerm 0 0 [(0, .ref 1), (1, .int x1)] [] G (fun r1 G1 => ((¬ r1 = 0 → EvV K mX11_freshenHits 5 0 [(0, .ref 1)] [] G1 (fun G2 => vp_in x1 4 ∧ EvI K mJ6_bitCount_0f7a4 0 0 [(0, .int (sI G2 8 (Int32.toNatClampNeg x1)))] [] G2 (fun r4 G4 => Q r4 G4))) ∧ (r1 = 0 → Q (-1) G1)))) :
    EvI K mX11_found 6 0 [(0, .ref 1), (1, .int x1)] [] G Q := by
  refine E_aload_n 0 dX11_found_0 rfl rfl rfl ?_
  refine E_iload_n 1 dX11_found_1 rfl rfl ?_
  refine E_cV (ci := 10) (as := [.int x1]) (st := []) cm_X11_isTerm cV_X11_195 ⟨_, _, rfl⟩ (by decide) (lo_1 hL) rfl rfl (by decide) (Nat.le_of_ble_eq_true rfl) (Nat.le_of_ble_eq_true rfl) dX11_found_2 hB (fun r G1 hr => ?_)
  obtain ⟨r1, rfl, hE1, hB⟩ := hr
  have hL1 : Lay G1.2.2 := by rw [hE1]; exact hL
  have hE1 : G1.2.2 = G.2.2 := hE1
  show Ev K mX11_found 6 5 [(0, .ref 1), (1, .int x1)] [.int r1] G1 _
  refine E_if_ne (tgt := 10) dX11_found_5 (by decide) (fun c => ?_) (fun c => ?_)
  · have hB := hB.1 c
    refine E_aload_n 0 dX11_found_10 rfl rfl rfl ?_
    refine E_cV (ci := 10) (as := []) (st := []) cm_X11_freshenHits cV_X11_198 ⟨_, _, rfl⟩ (by decide) (lo_1 hL1) rfl rfl (by decide) (Nat.le_of_ble_eq_true rfl) (Nat.le_of_ble_eq_true rfl) dX11_found_11 hB (fun r G2 hr => ?_)
    obtain ⟨rfl, hE2, hB⟩ := hr
    have hL2 : Lay G2.2.2 := by rw [hE2]; exact hL1
    have hE2 : G2.2.2 = G.2.2 := hE2.trans hE1
    show Ev K mX11_found 6 14 [(0, .ref 1), (1, .int x1)] [] G2 _
    refine E_aload_n 0 dX11_found_14 rfl rfl rfl ?_
    refine E_gR (j := 5) fG_X11_28 rfl (lo_1 hL2) (lr_1_2 hL2) (by decide) dX11_found_15 ?_
    refine E_gR (j := 8) fG_X11_204 rfl (lo_5 hL2) (lr_5_3 hL2) (by decide) dX11_found_18 ?_
    refine E_iload_n 1 dX11_found_21 rfl rfl ?_
    obtain ⟨qq3, hB⟩ := hB
    refine E_aI (p := Int32.toNatClampNeg x1) (v := sI G2 8 (Int32.toNatClampNeg x1)) (la_8 hL2) qq3 rfl rfl dX11_found_22 ?_
    refine E_callS (as := [.int (sI G2 8 (Int32.toNatClampNeg x1))]) (st := []) cm_J6_bitCount_0f7a4 cS_X11_207 rfl rfl (by decide) (Nat.le_of_ble_eq_true rfl) (Nat.le_of_ble_eq_true rfl) dX11_found_23 hB (fun r G4 hr => ?_)
    obtain ⟨r4, rfl, hE4, hB⟩ := hr
    have hL4 : Lay G4.2.2 := by rw [hE4]; exact hL2
    have hE4 : G4.2.2 = G.2.2 := hE4.trans hE2
    show Ev K mX11_found 6 26 [(0, .ref 1), (1, .int x1)] [.int r4] G4 _
    exact E_iret rfl dX11_found_26 ⟨_, rfl, hE4, hB⟩
  · have hB := hB.2 c
    refine E_iconst (v := (-1)) dX11_found_8 (by decide) ?_
    exact E_iret rfl dX11_found_9 ⟨_, rfl, hE1, hB⟩

set_option maxRecDepth 20000 in
set_option maxHeartbeats 2000000 in
theorem kX11_tie_0 {K : KT} {G : St} {Q : Int32 → St → Prop} {x1 : Int32} {x2 : Int32} (hL : Lay G.2.2) 
    (hB : EvI K mX11_isSeen 3 0 [(0, .ref 1), (1, .int x1)] [] G (fun r1 G1 => ((r1 = 0 → Q (-1) G1) ∧ (¬ r1 = 0 → EvI K mX11_isSeen 3 0 [(0, .ref 1), (1, .int x2)] [] G1 (fun r2 G2 => ((¬ r2 = 0 → EvV K mX11_freshenTies 5 0 [(0, .ref 1)] [] G2 (fun G3 => EvI K mX9_priceOf 0 0 [(0, .ref 11), (1, .int x1), (2, .int x2)] [] G3 (fun r4 G4 => ((¬ r4 = 0 → Q r4 G4) ∧ (r4 = 0 → Q (-1) G4))))) ∧ (r2 = 0 → Q (-1) G2))))))) :
    EvI K mX11_tie 6 0 [(0, .ref 1), (1, .int x1), (2, .int x2)] [] G Q := by
  refine E_aload_n 0 dX11_tie_0 rfl rfl rfl ?_
  refine E_iload_n 1 dX11_tie_1 rfl rfl ?_
  refine E_cV (ci := 10) (as := [.int x1]) (st := []) cm_X11_isSeen cV_X11_175 ⟨_, _, rfl⟩ (by decide) (lo_1 hL) rfl rfl (by decide) (Nat.le_of_ble_eq_true rfl) (Nat.le_of_ble_eq_true rfl) dX11_tie_2 hB (fun r G1 hr => ?_)
  obtain ⟨r1, rfl, hE1, hB⟩ := hr
  have hL1 : Lay G1.2.2 := by rw [hE1]; exact hL
  have hE1 : G1.2.2 = G.2.2 := hE1
  show Ev K mX11_tie 6 5 [(0, .ref 1), (1, .int x1), (2, .int x2)] [.int r1] G1 _
  refine E_if_eq (tgt := 16) dX11_tie_5 (by decide) (fun c => ?_) (fun c => ?_)
  · have hB := hB.1 c
    refine E_iconst (v := (-1)) dX11_tie_16 (by decide) ?_
    exact E_iret rfl dX11_tie_17 ⟨_, rfl, hE1, hB⟩
  · have hB := hB.2 c
    refine E_aload_n 0 dX11_tie_8 rfl rfl rfl ?_
    refine E_iload_n 2 dX11_tie_9 rfl rfl ?_
    refine E_cV (ci := 10) (as := [.int x2]) (st := []) cm_X11_isSeen cV_X11_175 ⟨_, _, rfl⟩ (by decide) (lo_1 hL1) rfl rfl (by decide) (Nat.le_of_ble_eq_true rfl) (Nat.le_of_ble_eq_true rfl) dX11_tie_10 hB (fun r G2 hr => ?_)
    obtain ⟨r2, rfl, hE2, hB⟩ := hr
    have hL2 : Lay G2.2.2 := by rw [hE2]; exact hL1
    have hE2 : G2.2.2 = G.2.2 := hE2.trans hE1
    show Ev K mX11_tie 6 13 [(0, .ref 1), (1, .int x1), (2, .int x2)] [.int r2] G2 _
    refine E_if_ne (tgt := 18) dX11_tie_13 (by decide) (fun c => ?_) (fun c => ?_)
    · have hB := hB.1 c
      refine E_aload_n 0 dX11_tie_18 rfl rfl rfl ?_
      refine E_cV (ci := 10) (as := []) (st := []) cm_X11_freshenTies cV_X11_212 ⟨_, _, rfl⟩ (by decide) (lo_1 hL2) rfl rfl (by decide) (Nat.le_of_ble_eq_true rfl) (Nat.le_of_ble_eq_true rfl) dX11_tie_19 hB (fun r G3 hr => ?_)
      obtain ⟨rfl, hE3, hB⟩ := hr
      have hL3 : Lay G3.2.2 := by rw [hE3]; exact hL2
      have hE3 : G3.2.2 = G.2.2 := hE3.trans hE2
      show Ev K mX11_tie 6 22 [(0, .ref 1), (1, .int x1), (2, .int x2)] [] G3 _
      refine E_aload_n 0 dX11_tie_22 rfl rfl rfl ?_
      refine E_gR (j := 11) fG_X11_35 rfl (lo_1 hL3) (lr_1_3 hL3) (by decide) dX11_tie_23 ?_
      refine E_iload_n 1 dX11_tie_26 rfl rfl ?_
      refine E_iload_n 2 dX11_tie_27 rfl rfl ?_
      refine E_cV (ci := 9) (as := [.int x1, .int x2]) (st := []) cm_X9_priceOf cV_X11_215 ⟨_, _, rfl⟩ (by decide) (lo_11 hL3) rfl rfl (by decide) (Nat.le_of_ble_eq_true rfl) (Nat.le_of_ble_eq_true rfl) dX11_tie_28 hB (fun r G4 hr => ?_)
      obtain ⟨r4, rfl, hE4, hB⟩ := hr
      have hL4 : Lay G4.2.2 := by rw [hE4]; exact hL3
      have hE4 : G4.2.2 = G.2.2 := hE4.trans hE3
      show Ev K mX11_tie 6 31 [(0, .ref 1), (1, .int x1), (2, .int x2)] [.int r4] G4 _
      refine E_istore_n (lv' := [(0, .ref 1), (1, .int x1), (2, .int x2), (3, .int r4)]) dX11_tie_31 rfl (by decide) rfl ?_
      refine E_iload_n 3 dX11_tie_32 rfl rfl ?_
      refine E_if_ne (tgt := 40) dX11_tie_33 (by decide) (fun c => ?_) (fun c => ?_)
      · have hB := hB.1 c
        refine E_iload_n 3 dX11_tie_40 rfl rfl ?_
        exact E_iret rfl dX11_tie_41 ⟨_, rfl, hE4, hB⟩
      · have hB := hB.2 c
        refine E_iconst (v := (-1)) dX11_tie_36 (by decide) ?_
        refine E_goto (tgt := 41) dX11_tie_37 (by decide) ?_
        exact E_iret rfl dX11_tie_41 ⟨_, rfl, hE4, hB⟩
    · have hB := hB.2 c
      refine E_iconst (v := (-1)) dX11_tie_16 (by decide) ?_
      exact E_iret rfl dX11_tie_17 ⟨_, rfl, hE2, hB⟩

set_option maxRecDepth 20000 in
set_option maxHeartbeats 2000000 in
theorem kX11_joining_0 {K : KT} {G : St} {Q : Int32 → St → Prop} {x1 : Int32} {x2 : Int32} (hL : Lay G.2.2) 
    (hB : EvIa K mX11_searched 10 0 [(0, .ref 1)] [] G (fun r1 G1 => Lay G1.2.2 ∧ ((r1 = 0 → Q (-1) G1) ∧ (¬ r1 = 0 → EvI K mX6_has 0 0 [(0, .ref 18), (1, .int x1)] [] G1 (fun r2 G2 => ((¬ r2 = 0 → ((x2 = 0 → EvI K mX6_setOf 1 0 [(0, .ref 18), (1, .int x1)] [] G2 (fun r3 G3 => Q r3 G3)) ∧ (x2 = 1 → EvI K mX6_priceOf 1 0 [(0, .ref 18), (1, .int x1)] [] G2 (fun r4 G4 => Q r4 G4)) ∧ (x2 = 2 → EvI K mX4_ofJoining 0 0 [(0, .ref 28), (1, .int x1)] [] G2 (fun r5 G5 => Q r5 G5)) ∧ (x2 = 3 → EvI K mX6_tiesOf 1 0 [(0, .ref 18), (1, .int x1)] [] G2 (fun r6 G6 => Q r6 G6)) ∧ (¬ x2 = 0 → ¬ x2 = 1 → ¬ x2 = 2 → ¬ x2 = 3 → Q (-1) G2))) ∧ (r2 = 0 → Q (-1) G2))))))) :
    EvIa K mX11_joining 11 0 [(0, .ref 1), (1, .int x1), (2, .int x2)] [] G Q := by
  refine E_aload_n 0 dX11_joining_0 rfl rfl rfl ?_
  refine E_cV (ci := 10) (as := []) (st := []) cm_X11_searched cV_X11_139 ⟨_, _, rfl⟩ (by decide) (lo_1 hL) rfl rfl (by decide) (Nat.le_of_ble_eq_true rfl) (Nat.le_of_ble_eq_true rfl) dX11_joining_1 hB (fun r G1 hr => ?_)
  obtain ⟨r1, rfl, hL1, hB⟩ := hr
  show Ev K mX11_joining 11 4 [(0, .ref 1), (1, .int x1), (2, .int x2)] [.int r1] G1 _
  refine E_if_eq (tgt := 18) dX11_joining_4 (by decide) (fun c => ?_) (fun c => ?_)
  · have hB := hB.1 c
    refine E_iconst (v := (-1)) dX11_joining_18 (by decide) ?_
    exact E_iret rfl dX11_joining_19 ⟨_, rfl, hB⟩
  · have hB := hB.2 c
    refine E_aload_n 0 dX11_joining_7 rfl rfl rfl ?_
    refine E_gR (j := 18) fG_X11_51 rfl (lo_1 hL1) (lr_1_5 hL1) (by decide) dX11_joining_8 ?_
    refine E_iload_n 1 dX11_joining_11 rfl rfl ?_
    refine E_cV (ci := 6) (as := [.int x1]) (st := []) cm_X6_has cV_X11_218 ⟨_, _, rfl⟩ (by decide) (lo_18 hL1) rfl rfl (by decide) (Nat.le_of_ble_eq_true rfl) (Nat.le_of_ble_eq_true rfl) dX11_joining_12 hB (fun r G2 hr => ?_)
    obtain ⟨r2, rfl, hE2, hB⟩ := hr
    have hL2 : Lay G2.2.2 := by rw [hE2]; exact hL1
    show Ev K mX11_joining 11 15 [(0, .ref 1), (1, .int x1), (2, .int x2)] [.int r2] G2 _
    refine E_if_ne (tgt := 20) dX11_joining_15 (by decide) (fun c => ?_) (fun c => ?_)
    · have hB := hB.1 c
      refine E_iload_n 2 dX11_joining_20 rfl rfl ?_
      obtain ⟨hA, hB⟩ := hB
      by_cases c0 : x2 = 0
      · have hB := hA c0
        refine E_tableIn (off := 31) (tgt := 52) dX11_joining_21 (by rw [c0]; decide) (by rw [c0]; decide) (by rw [c0]; decide) (by decide) ?_
        refine E_aload_n 0 dX11_joining_52 rfl rfl rfl ?_
        refine E_gR (j := 18) fG_X11_51 rfl (lo_1 hL2) (lr_1_5 hL2) (by decide) dX11_joining_53 ?_
        refine E_iload_n 1 dX11_joining_56 rfl rfl ?_
        refine E_cV (ci := 6) (as := [.int x1]) (st := []) cm_X6_setOf cV_X11_221 ⟨_, _, rfl⟩ (by decide) (lo_18 hL2) rfl rfl (by decide) (Nat.le_of_ble_eq_true rfl) (Nat.le_of_ble_eq_true rfl) dX11_joining_57 hB (fun r G3 hr => ?_)
        obtain ⟨r3, rfl, hE3, hB⟩ := hr
        have hL3 : Lay G3.2.2 := by rw [hE3]; exact hL2
        show Ev K mX11_joining 11 60 [(0, .ref 1), (1, .int x1), (2, .int x2)] [.int r3] G3 _
        exact E_iret rfl dX11_joining_60 ⟨_, rfl, hB⟩
      obtain ⟨hA, hB⟩ := hB
      by_cases c1 : x2 = 1
      · have hB := hA c1
        refine E_tableIn (off := 40) (tgt := 61) dX11_joining_21 (by rw [c1]; decide) (by rw [c1]; decide) (by rw [c1]; decide) (by decide) ?_
        refine E_aload_n 0 dX11_joining_61 rfl rfl rfl ?_
        refine E_gR (j := 18) fG_X11_51 rfl (lo_1 hL2) (lr_1_5 hL2) (by decide) dX11_joining_62 ?_
        refine E_iload_n 1 dX11_joining_65 rfl rfl ?_
        refine E_cV (ci := 6) (as := [.int x1]) (st := []) cm_X6_priceOf cV_X11_224 ⟨_, _, rfl⟩ (by decide) (lo_18 hL2) rfl rfl (by decide) (Nat.le_of_ble_eq_true rfl) (Nat.le_of_ble_eq_true rfl) dX11_joining_66 hB (fun r G4 hr => ?_)
        obtain ⟨r4, rfl, hE4, hB⟩ := hr
        have hL4 : Lay G4.2.2 := by rw [hE4]; exact hL2
        show Ev K mX11_joining 11 69 [(0, .ref 1), (1, .int x1), (2, .int x2)] [.int r4] G4 _
        exact E_iret rfl dX11_joining_69 ⟨_, rfl, hB⟩
      obtain ⟨hA, hB⟩ := hB
      by_cases c2 : x2 = 2
      · have hB := hA c2
        refine E_tableIn (off := 49) (tgt := 70) dX11_joining_21 (by rw [c2]; decide) (by rw [c2]; decide) (by rw [c2]; decide) (by decide) ?_
        refine E_aload_n 0 dX11_joining_70 rfl rfl rfl ?_
        refine E_gR (j := 28) fG_X11_58 rfl (lo_1 hL2) (lr_1_6 hL2) (by decide) dX11_joining_71 ?_
        refine E_iload_n 1 dX11_joining_74 rfl rfl ?_
        refine E_cV (ci := 4) (as := [.int x1]) (st := []) cm_X4_ofJoining cV_X11_226 ⟨_, _, rfl⟩ (by decide) (lo_28 hL2) rfl rfl (by decide) (Nat.le_of_ble_eq_true rfl) (Nat.le_of_ble_eq_true rfl) dX11_joining_75 hB (fun r G5 hr => ?_)
        obtain ⟨r5, rfl, hE5, hB⟩ := hr
        have hL5 : Lay G5.2.2 := by rw [hE5]; exact hL2
        show Ev K mX11_joining 11 78 [(0, .ref 1), (1, .int x1), (2, .int x2)] [.int r5] G5 _
        exact E_iret rfl dX11_joining_78 ⟨_, rfl, hB⟩
      obtain ⟨hA, hB⟩ := hB
      by_cases c3 : x2 = 3
      · have hB := hA c3
        refine E_tableIn (off := 58) (tgt := 79) dX11_joining_21 (by rw [c3]; decide) (by rw [c3]; decide) (by rw [c3]; decide) (by decide) ?_
        refine E_aload_n 0 dX11_joining_79 rfl rfl rfl ?_
        refine E_gR (j := 18) fG_X11_51 rfl (lo_1 hL2) (lr_1_5 hL2) (by decide) dX11_joining_80 ?_
        refine E_iload_n 1 dX11_joining_83 rfl rfl ?_
        refine E_cV (ci := 6) (as := [.int x1]) (st := []) cm_X6_tiesOf cV_X11_229 ⟨_, _, rfl⟩ (by decide) (lo_18 hL2) rfl rfl (by decide) (Nat.le_of_ble_eq_true rfl) (Nat.le_of_ble_eq_true rfl) dX11_joining_84 hB (fun r G6 hr => ?_)
        obtain ⟨r6, rfl, hE6, hB⟩ := hr
        have hL6 : Lay G6.2.2 := by rw [hE6]; exact hL2
        show Ev K mX11_joining 11 87 [(0, .ref 1), (1, .int x1), (2, .int x2)] [.int r6] G6 _
        exact E_iret rfl dX11_joining_87 ⟨_, rfl, hB⟩
      have hB := hB c0 c1 c2 c3
      refine E_tableOut (tgt := 88) dX11_joining_21 (tb_outZ (by decide) (by decide) (fun z z1 z2 => ?_)) (by decide) ?_
      · have z3 : z = 0 ∨ z = 1 ∨ z = 2 ∨ z = 3 := by omega
        rcases z3 with rfl | rfl | rfl | rfl
        · exact fun q => c0 (q.trans (by decide))
        · exact fun q => c1 (q.trans (by decide))
        · exact fun q => c2 (q.trans (by decide))
        · exact fun q => c3 (q.trans (by decide))
      refine E_iconst (v := (-1)) dX11_joining_88 (by decide) ?_
      exact E_iret rfl dX11_joining_89 ⟨_, rfl, hB⟩
    · have hB := hB.2 c
      refine E_iconst (v := (-1)) dX11_joining_18 (by decide) ?_
      exact E_iret rfl dX11_joining_19 ⟨_, rfl, hB⟩

set_option maxRecDepth 20000 in
set_option maxHeartbeats 2000000 in
theorem kX11_place_0 {K : KT} {G : St} {Q : Int32 → St → Prop} {x1 : Int32} {x2 : Int32} (hL : Lay G.2.2) 
    (hB : EvI K mX11_isTerm 0 0 [(0, .ref 1), (1, .int x2)] [] G (fun r1 G1 => ((r1 = 0 → Q (-1) G1) ∧ (¬ r1 = 0 → EvIa K mX11_searched 10 0 [(0, .ref 1)] [] G1 (fun r2 G2 => Lay G2.2.2 ∧ ((r2 = 0 → Q (-1) G2) ∧ (¬ r2 = 0 → EvI K mX6_has 0 0 [(0, .ref 18), (1, .int x1)] [] G2 (fun r3 G3 => ((¬ r3 = 0 → EvI K mX6_setOf 1 0 [(0, .ref 18), (1, .int x1)] [] G3 (fun r4 G4 => EvI K mX0_holderIn 1 0 [(0, .ref 5), (1, .int r4), (2, .int x2)] [] G4 (fun r5 G5 => Q r5 G5))) ∧ (r3 = 0 → Q (-1) G3)))))))))) :
    EvIa K mX11_place 11 0 [(0, .ref 1), (1, .int x1), (2, .int x2)] [] G Q := by
  refine E_aload_n 0 dX11_place_0 rfl rfl rfl ?_
  refine E_iload_n 2 dX11_place_1 rfl rfl ?_
  refine E_cV (ci := 10) (as := [.int x2]) (st := []) cm_X11_isTerm cV_X11_195 ⟨_, _, rfl⟩ (by decide) (lo_1 hL) rfl rfl (by decide) (Nat.le_of_ble_eq_true rfl) (Nat.le_of_ble_eq_true rfl) dX11_place_2 hB (fun r G1 hr => ?_)
  obtain ⟨r1, rfl, hE1, hB⟩ := hr
  have hL1 : Lay G1.2.2 := by rw [hE1]; exact hL
  show Ev K mX11_place 11 5 [(0, .ref 1), (1, .int x1), (2, .int x2)] [.int r1] G1 _
  refine E_if_eq (tgt := 26) dX11_place_5 (by decide) (fun c => ?_) (fun c => ?_)
  · have hB := hB.1 c
    refine E_iconst (v := (-1)) dX11_place_26 (by decide) ?_
    exact E_iret rfl dX11_place_27 ⟨_, rfl, hB⟩
  · have hB := hB.2 c
    refine E_aload_n 0 dX11_place_8 rfl rfl rfl ?_
    refine E_cV (ci := 10) (as := []) (st := []) cm_X11_searched cV_X11_139 ⟨_, _, rfl⟩ (by decide) (lo_1 hL1) rfl rfl (by decide) (Nat.le_of_ble_eq_true rfl) (Nat.le_of_ble_eq_true rfl) dX11_place_9 hB (fun r G2 hr => ?_)
    obtain ⟨r2, rfl, hL2, hB⟩ := hr
    show Ev K mX11_place 11 12 [(0, .ref 1), (1, .int x1), (2, .int x2)] [.int r2] G2 _
    refine E_if_eq (tgt := 26) dX11_place_12 (by decide) (fun c => ?_) (fun c => ?_)
    · have hB := hB.1 c
      refine E_iconst (v := (-1)) dX11_place_26 (by decide) ?_
      exact E_iret rfl dX11_place_27 ⟨_, rfl, hB⟩
    · have hB := hB.2 c
      refine E_aload_n 0 dX11_place_15 rfl rfl rfl ?_
      refine E_gR (j := 18) fG_X11_51 rfl (lo_1 hL2) (lr_1_5 hL2) (by decide) dX11_place_16 ?_
      refine E_iload_n 1 dX11_place_19 rfl rfl ?_
      refine E_cV (ci := 6) (as := [.int x1]) (st := []) cm_X6_has cV_X11_218 ⟨_, _, rfl⟩ (by decide) (lo_18 hL2) rfl rfl (by decide) (Nat.le_of_ble_eq_true rfl) (Nat.le_of_ble_eq_true rfl) dX11_place_20 hB (fun r G3 hr => ?_)
      obtain ⟨r3, rfl, hE3, hB⟩ := hr
      have hL3 : Lay G3.2.2 := by rw [hE3]; exact hL2
      show Ev K mX11_place 11 23 [(0, .ref 1), (1, .int x1), (2, .int x2)] [.int r3] G3 _
      refine E_if_ne (tgt := 28) dX11_place_23 (by decide) (fun c => ?_) (fun c => ?_)
      · have hB := hB.1 c
        refine E_aload_n 0 dX11_place_28 rfl rfl rfl ?_
        refine E_gR (j := 5) fG_X11_28 rfl (lo_1 hL3) (lr_1_2 hL3) (by decide) dX11_place_29 ?_
        refine E_aload_n 0 dX11_place_32 rfl rfl rfl ?_
        refine E_gR (j := 18) fG_X11_51 rfl (lo_1 hL3) (lr_1_5 hL3) (by decide) dX11_place_33 ?_
        refine E_iload_n 1 dX11_place_36 rfl rfl ?_
        refine E_cV (ci := 6) (as := [.int x1]) (st := [.ref 5]) cm_X6_setOf cV_X11_221 ⟨_, _, rfl⟩ (by decide) (lo_18 hL3) rfl rfl (by decide) (Nat.le_of_ble_eq_true rfl) (Nat.le_of_ble_eq_true rfl) dX11_place_37 hB (fun r G4 hr => ?_)
        obtain ⟨r4, rfl, hE4, hB⟩ := hr
        have hL4 : Lay G4.2.2 := by rw [hE4]; exact hL3
        show Ev K mX11_place 11 40 [(0, .ref 1), (1, .int x1), (2, .int x2)] [.int r4, .ref 5] G4 _
        refine E_iload_n 2 dX11_place_40 rfl rfl ?_
        refine E_cV (ci := 0) (as := [.int r4, .int x2]) (st := []) cm_X0_holderIn cV_X11_232 ⟨_, _, rfl⟩ (by decide) (lo_5 hL4) rfl rfl (by decide) (Nat.le_of_ble_eq_true rfl) (Nat.le_of_ble_eq_true rfl) dX11_place_41 hB (fun r G5 hr => ?_)
        obtain ⟨r5, rfl, hE5, hB⟩ := hr
        have hL5 : Lay G5.2.2 := by rw [hE5]; exact hL4
        show Ev K mX11_place 11 44 [(0, .ref 1), (1, .int x1), (2, .int x2)] [.int r5] G5 _
        exact E_iret rfl dX11_place_44 ⟨_, rfl, hB⟩
      · have hB := hB.2 c
        refine E_iconst (v := (-1)) dX11_place_26 (by decide) ?_
        exact E_iret rfl dX11_place_27 ⟨_, rfl, hB⟩

set_option maxRecDepth 20000 in
set_option maxHeartbeats 2000000 in
theorem kX11_looks_0 {K : KT} {G : St} {Q : Int32 → St → Prop} {x1 : Int32} {x2 : Int32} (hL : Lay G.2.2) 
    (hB : ((x1 < 0 → Q (-1) G) ∧ (¬ x1 < 0 → ((1000000 < x1 → Q (-1) G) ∧ (¬ 1000000 < x1 → EvIa K mX11_searched 10 0 [(0, .ref 1)] [] G (fun r1 G1 => Lay G1.2.2 ∧ ((¬ r1 = 0 → ((x2 = 0 → EvI K mX6_leastBehind 0 0 [(0, .ref 18), (1, .int x1)] [] G1 (fun r2 G2 => Q r2 G2)) ∧ (x2 = 1 → EvI K mX6_boundBehind 0 0 [(0, .ref 18), (1, .int x1)] [] G1 (fun r3 G3 => Q r3 G3)) ∧ (x2 = 2 → EvI K mJ9_min_7cf53 0 0 [(0, .int x1), (1, .int (sI G1 18 16))] [] G1 (fun r4 G4 => Q r4 G4)) ∧ (¬ x2 = 0 → ¬ x2 = 1 → ¬ x2 = 2 → Q (-1) G1))) ∧ (r1 = 0 → Q (-1) G1)))))))) :
    EvIa K mX11_looks 11 0 [(0, .ref 1), (1, .int x1), (2, .int x2)] [] G Q := by
  refine E_iload_n 1 dX11_looks_0 rfl rfl ?_
  refine E_if_lt (tgt := 17) dX11_looks_1 (by decide) (fun c => ?_) (fun c => ?_)
  · have hB := hB.1 c
    refine E_iconst (v := (-1)) dX11_looks_17 (by decide) ?_
    exact E_iret rfl dX11_looks_18 ⟨_, rfl, hB⟩
  · have hB := hB.2 c
    refine E_iload_n 1 dX11_looks_4 rfl rfl ?_
    refine E_ldc (v := 1000000) tm_997 dX11_looks_5 ?_
    refine E_icmp_gt (tgt := 17) dX11_looks_7 (by decide) (fun c => ?_) (fun c => ?_)
    · have hB := hB.1 c
      refine E_iconst (v := (-1)) dX11_looks_17 (by decide) ?_
      exact E_iret rfl dX11_looks_18 ⟨_, rfl, hB⟩
    · have hB := hB.2 c
      refine E_aload_n 0 dX11_looks_10 rfl rfl rfl ?_
      refine E_cV (ci := 10) (as := []) (st := []) cm_X11_searched cV_X11_139 ⟨_, _, rfl⟩ (by decide) (lo_1 hL) rfl rfl (by decide) (Nat.le_of_ble_eq_true rfl) (Nat.le_of_ble_eq_true rfl) dX11_looks_11 hB (fun r G1 hr => ?_)
      obtain ⟨r1, rfl, hL1, hB⟩ := hr
      show Ev K mX11_looks 11 14 [(0, .ref 1), (1, .int x1), (2, .int x2)] [.int r1] G1 _
      refine E_if_ne (tgt := 19) dX11_looks_14 (by decide) (fun c => ?_) (fun c => ?_)
      · have hB := hB.1 c
        refine E_iload_n 2 dX11_looks_19 rfl rfl ?_
        obtain ⟨hA, hB⟩ := hB
        by_cases c0 : x2 = 0
        · have hB := hA c0
          refine E_tableIn (off := 28) (tgt := 48) dX11_looks_20 (by rw [c0]; decide) (by rw [c0]; decide) (by rw [c0]; decide) (by decide) ?_
          refine E_aload_n 0 dX11_looks_48 rfl rfl rfl ?_
          refine E_gR (j := 18) fG_X11_51 rfl (lo_1 hL1) (lr_1_5 hL1) (by decide) dX11_looks_49 ?_
          refine E_iload_n 1 dX11_looks_52 rfl rfl ?_
          refine E_cV (ci := 6) (as := [.int x1]) (st := []) cm_X6_leastBehind cV_X11_236 ⟨_, _, rfl⟩ (by decide) (lo_18 hL1) rfl rfl (by decide) (Nat.le_of_ble_eq_true rfl) (Nat.le_of_ble_eq_true rfl) dX11_looks_53 hB (fun r G2 hr => ?_)
          obtain ⟨r2, rfl, hE2, hB⟩ := hr
          have hL2 : Lay G2.2.2 := by rw [hE2]; exact hL1
          show Ev K mX11_looks 11 56 [(0, .ref 1), (1, .int x1), (2, .int x2)] [.int r2] G2 _
          exact E_iret rfl dX11_looks_56 ⟨_, rfl, hB⟩
        obtain ⟨hA, hB⟩ := hB
        by_cases c1 : x2 = 1
        · have hB := hA c1
          refine E_tableIn (off := 37) (tgt := 57) dX11_looks_20 (by rw [c1]; decide) (by rw [c1]; decide) (by rw [c1]; decide) (by decide) ?_
          refine E_aload_n 0 dX11_looks_57 rfl rfl rfl ?_
          refine E_gR (j := 18) fG_X11_51 rfl (lo_1 hL1) (lr_1_5 hL1) (by decide) dX11_looks_58 ?_
          refine E_iload_n 1 dX11_looks_61 rfl rfl ?_
          refine E_cV (ci := 6) (as := [.int x1]) (st := []) cm_X6_boundBehind cV_X11_239 ⟨_, _, rfl⟩ (by decide) (lo_18 hL1) rfl rfl (by decide) (Nat.le_of_ble_eq_true rfl) (Nat.le_of_ble_eq_true rfl) dX11_looks_62 hB (fun r G3 hr => ?_)
          obtain ⟨r3, rfl, hE3, hB⟩ := hr
          have hL3 : Lay G3.2.2 := by rw [hE3]; exact hL1
          show Ev K mX11_looks 11 65 [(0, .ref 1), (1, .int x1), (2, .int x2)] [.int r3] G3 _
          exact E_iret rfl dX11_looks_65 ⟨_, rfl, hB⟩
        obtain ⟨hA, hB⟩ := hB
        by_cases c2 : x2 = 2
        · have hB := hA c2
          refine E_tableIn (off := 46) (tgt := 66) dX11_looks_20 (by rw [c2]; decide) (by rw [c2]; decide) (by rw [c2]; decide) (by decide) ?_
          refine E_iload_n 1 dX11_looks_66 rfl rfl ?_
          refine E_aload_n 0 dX11_looks_67 rfl rfl rfl ?_
          refine E_gR (j := 18) fG_X11_51 rfl (lo_1 hL1) (lr_1_5 hL1) (by decide) dX11_looks_68 ?_
          refine E_gI (v := sI G1 18 16) fG_X11_242 rfl (lo_18 hL1) rfl dX11_looks_71 ?_
          refine E_callS (as := [.int x1, .int (sI G1 18 16)]) (st := []) cm_J9_min_7cf53 cS_X11_245 rfl rfl (by decide) (Nat.le_of_ble_eq_true rfl) (Nat.le_of_ble_eq_true rfl) dX11_looks_74 hB (fun r G4 hr => ?_)
          obtain ⟨r4, rfl, hE4, hB⟩ := hr
          have hL4 : Lay G4.2.2 := by rw [hE4]; exact hL1
          show Ev K mX11_looks 11 77 [(0, .ref 1), (1, .int x1), (2, .int x2)] [.int r4] G4 _
          exact E_iret rfl dX11_looks_77 ⟨_, rfl, hB⟩
        have hB := hB c0 c1 c2
        refine E_tableOut (tgt := 78) dX11_looks_20 (tb_outZ (by decide) (by decide) (fun z z1 z2 => ?_)) (by decide) ?_
        · have z3 : z = 0 ∨ z = 1 ∨ z = 2 := by omega
          rcases z3 with rfl | rfl | rfl
          · exact fun q => c0 (q.trans (by decide))
          · exact fun q => c1 (q.trans (by decide))
          · exact fun q => c2 (q.trans (by decide))
        refine E_iconst (v := (-1)) dX11_looks_78 (by decide) ?_
        exact E_iret rfl dX11_looks_79 ⟨_, rfl, hB⟩
      · have hB := hB.2 c
        refine E_iconst (v := (-1)) dX11_looks_17 (by decide) ?_
        exact E_iret rfl dX11_looks_18 ⟨_, rfl, hB⟩

set_option maxRecDepth 20000 in
set_option maxHeartbeats 2000000 in
theorem kX11_asked_0 {K : KT} {G : St} {Q : Int32 → St → Prop} {x1 : Int32} {x2 : Int32} (hL : Lay G.2.2) 
    (hB : EvIa K mX11_searched 10 0 [(0, .ref 1)] [] G (fun r1 G1 => Lay G1.2.2 ∧ ((r1 = 0 → Q (-1) G1) ∧ (¬ r1 = 0 → EvI K mX4_has 0 0 [(0, .ref 28), (1, .int x1)] [] G1 (fun r2 G2 => ((¬ r2 = 0 → ((x2 = 0 → EvI K mX4_joiningsOf 1 0 [(0, .ref 28), (1, .int x1)] [] G2 (fun r3 G3 => Q r3 G3)) ∧ (x2 = 1 → EvI K mX4_firstOf 1 0 [(0, .ref 28), (1, .int x1)] [] G2 (fun r4 G4 => Q r4 G4)) ∧ (x2 = 2 → EvI K mX4_chosenOf 2 0 [(0, .ref 28), (1, .int x1)] [] G2 (fun r5 G5 => Q r5 G5)) ∧ (x2 = 3 → EvI K mX4_rankOf 3 0 [(0, .ref 28), (1, .int x1)] [] G2 (fun r6 G6 => Q r6 G6)) ∧ (x2 = 4 → EvI K mX4_sentenceLength 4 0 [(0, .ref 28), (1, .int x1), (2, .ref (sR G2 1 8)), (3, .ref (sR G2 1 10))] [] G2 (fun r7 G7 => Q r7 G7)) ∧ (¬ x2 = 0 → ¬ x2 = 1 → ¬ x2 = 2 → ¬ x2 = 3 → ¬ x2 = 4 → Q (-1) G2))) ∧ (r2 = 0 → Q (-1) G2))))))) :
    EvIa K mX11_asked 11 0 [(0, .ref 1), (1, .int x1), (2, .int x2)] [] G Q := by
  refine E_aload_n 0 dX11_asked_0 rfl rfl rfl ?_
  refine E_cV (ci := 10) (as := []) (st := []) cm_X11_searched cV_X11_139 ⟨_, _, rfl⟩ (by decide) (lo_1 hL) rfl rfl (by decide) (Nat.le_of_ble_eq_true rfl) (Nat.le_of_ble_eq_true rfl) dX11_asked_1 hB (fun r G1 hr => ?_)
  obtain ⟨r1, rfl, hL1, hB⟩ := hr
  show Ev K mX11_asked 11 4 [(0, .ref 1), (1, .int x1), (2, .int x2)] [.int r1] G1 _
  refine E_if_eq (tgt := 18) dX11_asked_4 (by decide) (fun c => ?_) (fun c => ?_)
  · have hB := hB.1 c
    refine E_iconst (v := (-1)) dX11_asked_18 (by decide) ?_
    exact E_iret rfl dX11_asked_19 ⟨_, rfl, hB⟩
  · have hB := hB.2 c
    refine E_aload_n 0 dX11_asked_7 rfl rfl rfl ?_
    refine E_gR (j := 28) fG_X11_58 rfl (lo_1 hL1) (lr_1_6 hL1) (by decide) dX11_asked_8 ?_
    refine E_iload_n 1 dX11_asked_11 rfl rfl ?_
    refine E_cV (ci := 4) (as := [.int x1]) (st := []) cm_X4_has cV_X11_250 ⟨_, _, rfl⟩ (by decide) (lo_28 hL1) rfl rfl (by decide) (Nat.le_of_ble_eq_true rfl) (Nat.le_of_ble_eq_true rfl) dX11_asked_12 hB (fun r G2 hr => ?_)
    obtain ⟨r2, rfl, hE2, hB⟩ := hr
    have hL2 : Lay G2.2.2 := by rw [hE2]; exact hL1
    show Ev K mX11_asked 11 15 [(0, .ref 1), (1, .int x1), (2, .int x2)] [.int r2] G2 _
    refine E_if_ne (tgt := 20) dX11_asked_15 (by decide) (fun c => ?_) (fun c => ?_)
    · have hB := hB.1 c
      refine E_iload_n 2 dX11_asked_20 rfl rfl ?_
      obtain ⟨hA, hB⟩ := hB
      by_cases c0 : x2 = 0
      · have hB := hA c0
        refine E_tableIn (off := 35) (tgt := 56) dX11_asked_21 (by rw [c0]; decide) (by rw [c0]; decide) (by rw [c0]; decide) (by decide) ?_
        refine E_aload_n 0 dX11_asked_56 rfl rfl rfl ?_
        refine E_gR (j := 28) fG_X11_58 rfl (lo_1 hL2) (lr_1_6 hL2) (by decide) dX11_asked_57 ?_
        refine E_iload_n 1 dX11_asked_60 rfl rfl ?_
        refine E_cV (ci := 4) (as := [.int x1]) (st := []) cm_X4_joiningsOf cV_X11_251 ⟨_, _, rfl⟩ (by decide) (lo_28 hL2) rfl rfl (by decide) (Nat.le_of_ble_eq_true rfl) (Nat.le_of_ble_eq_true rfl) dX11_asked_61 hB (fun r G3 hr => ?_)
        obtain ⟨r3, rfl, hE3, hB⟩ := hr
        have hL3 : Lay G3.2.2 := by rw [hE3]; exact hL2
        show Ev K mX11_asked 11 64 [(0, .ref 1), (1, .int x1), (2, .int x2)] [.int r3] G3 _
        exact E_iret rfl dX11_asked_64 ⟨_, rfl, hB⟩
      obtain ⟨hA, hB⟩ := hB
      by_cases c1 : x2 = 1
      · have hB := hA c1
        refine E_tableIn (off := 44) (tgt := 65) dX11_asked_21 (by rw [c1]; decide) (by rw [c1]; decide) (by rw [c1]; decide) (by decide) ?_
        refine E_aload_n 0 dX11_asked_65 rfl rfl rfl ?_
        refine E_gR (j := 28) fG_X11_58 rfl (lo_1 hL2) (lr_1_6 hL2) (by decide) dX11_asked_66 ?_
        refine E_iload_n 1 dX11_asked_69 rfl rfl ?_
        refine E_cV (ci := 4) (as := [.int x1]) (st := []) cm_X4_firstOf cV_X11_254 ⟨_, _, rfl⟩ (by decide) (lo_28 hL2) rfl rfl (by decide) (Nat.le_of_ble_eq_true rfl) (Nat.le_of_ble_eq_true rfl) dX11_asked_70 hB (fun r G4 hr => ?_)
        obtain ⟨r4, rfl, hE4, hB⟩ := hr
        have hL4 : Lay G4.2.2 := by rw [hE4]; exact hL2
        show Ev K mX11_asked 11 73 [(0, .ref 1), (1, .int x1), (2, .int x2)] [.int r4] G4 _
        exact E_iret rfl dX11_asked_73 ⟨_, rfl, hB⟩
      obtain ⟨hA, hB⟩ := hB
      by_cases c2 : x2 = 2
      · have hB := hA c2
        refine E_tableIn (off := 53) (tgt := 74) dX11_asked_21 (by rw [c2]; decide) (by rw [c2]; decide) (by rw [c2]; decide) (by decide) ?_
        refine E_aload_n 0 dX11_asked_74 rfl rfl rfl ?_
        refine E_gR (j := 28) fG_X11_58 rfl (lo_1 hL2) (lr_1_6 hL2) (by decide) dX11_asked_75 ?_
        refine E_iload_n 1 dX11_asked_78 rfl rfl ?_
        refine E_cV (ci := 4) (as := [.int x1]) (st := []) cm_X4_chosenOf cV_X11_257 ⟨_, _, rfl⟩ (by decide) (lo_28 hL2) rfl rfl (by decide) (Nat.le_of_ble_eq_true rfl) (Nat.le_of_ble_eq_true rfl) dX11_asked_79 hB (fun r G5 hr => ?_)
        obtain ⟨r5, rfl, hE5, hB⟩ := hr
        have hL5 : Lay G5.2.2 := by rw [hE5]; exact hL2
        show Ev K mX11_asked 11 82 [(0, .ref 1), (1, .int x1), (2, .int x2)] [.int r5] G5 _
        exact E_iret rfl dX11_asked_82 ⟨_, rfl, hB⟩
      obtain ⟨hA, hB⟩ := hB
      by_cases c3 : x2 = 3
      · have hB := hA c3
        refine E_tableIn (off := 62) (tgt := 83) dX11_asked_21 (by rw [c3]; decide) (by rw [c3]; decide) (by rw [c3]; decide) (by decide) ?_
        refine E_aload_n 0 dX11_asked_83 rfl rfl rfl ?_
        refine E_gR (j := 28) fG_X11_58 rfl (lo_1 hL2) (lr_1_6 hL2) (by decide) dX11_asked_84 ?_
        refine E_iload_n 1 dX11_asked_87 rfl rfl ?_
        refine E_cV (ci := 4) (as := [.int x1]) (st := []) cm_X4_rankOf cV_X11_260 ⟨_, _, rfl⟩ (by decide) (lo_28 hL2) rfl rfl (by decide) (Nat.le_of_ble_eq_true rfl) (Nat.le_of_ble_eq_true rfl) dX11_asked_88 hB (fun r G6 hr => ?_)
        obtain ⟨r6, rfl, hE6, hB⟩ := hr
        have hL6 : Lay G6.2.2 := by rw [hE6]; exact hL2
        show Ev K mX11_asked 11 91 [(0, .ref 1), (1, .int x1), (2, .int x2)] [.int r6] G6 _
        exact E_iret rfl dX11_asked_91 ⟨_, rfl, hB⟩
      obtain ⟨hA, hB⟩ := hB
      by_cases c4 : x2 = 4
      · have hB := hA c4
        refine E_tableIn (off := 71) (tgt := 92) dX11_asked_21 (by rw [c4]; decide) (by rw [c4]; decide) (by rw [c4]; decide) (by decide) ?_
        refine E_aload_n 0 dX11_asked_92 rfl rfl rfl ?_
        refine E_gR (j := 28) fG_X11_58 rfl (lo_1 hL2) (lr_1_6 hL2) (by decide) dX11_asked_93 ?_
        refine E_iload_n 1 dX11_asked_96 rfl rfl ?_
        refine E_aload_n 0 dX11_asked_97 rfl rfl rfl ?_
        refine E_gR (j := sR G2 1 8) fG_X11_72 rfl (lo_1 hL2) rfl (lhP (ly_8 hL2)) dX11_asked_98 ?_
        refine E_aload_n 0 dX11_asked_101 rfl rfl rfl ?_
        refine E_gR (j := sR G2 1 10) fG_X11_82 rfl (lo_1 hL2) rfl (ltP (ly_10 hL2)) dX11_asked_102 ?_
        refine E_cV (ci := 4) (as := [.int x1, .ref (sR G2 1 8), .ref (sR G2 1 10)]) (st := []) cm_X4_sentenceLength cV_X11_263 ⟨_, _, rfl⟩ (by decide) (lo_28 hL2) rfl rfl (by decide) (Nat.le_of_ble_eq_true rfl) (Nat.le_of_ble_eq_true rfl) dX11_asked_105 hB (fun r G7 hr => ?_)
        obtain ⟨r7, rfl, hE7, hB⟩ := hr
        have hL7 : Lay G7.2.2 := by rw [hE7]; exact hL2
        show Ev K mX11_asked 11 108 [(0, .ref 1), (1, .int x1), (2, .int x2)] [.int r7] G7 _
        exact E_iret rfl dX11_asked_108 ⟨_, rfl, hB⟩
      have hB := hB c0 c1 c2 c3 c4
      refine E_tableOut (tgt := 109) dX11_asked_21 (tb_outZ (by decide) (by decide) (fun z z1 z2 => ?_)) (by decide) ?_
      · have z3 : z = 0 ∨ z = 1 ∨ z = 2 ∨ z = 3 ∨ z = 4 := by omega
        rcases z3 with rfl | rfl | rfl | rfl | rfl
        · exact fun q => c0 (q.trans (by decide))
        · exact fun q => c1 (q.trans (by decide))
        · exact fun q => c2 (q.trans (by decide))
        · exact fun q => c3 (q.trans (by decide))
        · exact fun q => c4 (q.trans (by decide))
      refine E_iconst (v := (-1)) dX11_asked_109 (by decide) ?_
      exact E_iret rfl dX11_asked_110 ⟨_, rfl, hB⟩
    · have hB := hB.2 c
      refine E_iconst (v := (-1)) dX11_asked_18 (by decide) ?_
      exact E_iret rfl dX11_asked_19 ⟨_, rfl, hB⟩

set_option maxRecDepth 20000 in
set_option maxHeartbeats 2000000 in
theorem kX11_said_0 {K : KT} {G : St} {Q : Int32 → St → Prop} {x1 : Int32} {x2 : Int32} (hL : Lay G.2.2) 
    (hB : EvIa K mX11_searched 10 0 [(0, .ref 1)] [] G (fun r1 G1 => Lay G1.2.2 ∧ ((r1 = 0 → Q (-1) G1) ∧ (¬ r1 = 0 → EvI K mX4_has 0 0 [(0, .ref 28), (1, .int x1)] [] G1 (fun r2 G2 => ((¬ r2 = 0 → EvI K mX4_sentenceSign 4 0 [(0, .ref 28), (1, .int x1), (2, .int x2), (3, .ref (sR G2 1 8)), (4, .ref (sR G2 1 10))] [] G2 (fun r3 G3 => Q r3 G3)) ∧ (r2 = 0 → Q (-1) G2))))))) :
    EvIa K mX11_said 11 0 [(0, .ref 1), (1, .int x1), (2, .int x2)] [] G Q := by
  refine E_aload_n 0 dX11_said_0 rfl rfl rfl ?_
  refine E_cV (ci := 10) (as := []) (st := []) cm_X11_searched cV_X11_139 ⟨_, _, rfl⟩ (by decide) (lo_1 hL) rfl rfl (by decide) (Nat.le_of_ble_eq_true rfl) (Nat.le_of_ble_eq_true rfl) dX11_said_1 hB (fun r G1 hr => ?_)
  obtain ⟨r1, rfl, hL1, hB⟩ := hr
  show Ev K mX11_said 11 4 [(0, .ref 1), (1, .int x1), (2, .int x2)] [.int r1] G1 _
  refine E_if_eq (tgt := 18) dX11_said_4 (by decide) (fun c => ?_) (fun c => ?_)
  · have hB := hB.1 c
    refine E_iconst (v := (-1)) dX11_said_18 (by decide) ?_
    exact E_iret rfl dX11_said_19 ⟨_, rfl, hB⟩
  · have hB := hB.2 c
    refine E_aload_n 0 dX11_said_7 rfl rfl rfl ?_
    refine E_gR (j := 28) fG_X11_58 rfl (lo_1 hL1) (lr_1_6 hL1) (by decide) dX11_said_8 ?_
    refine E_iload_n 1 dX11_said_11 rfl rfl ?_
    refine E_cV (ci := 4) (as := [.int x1]) (st := []) cm_X4_has cV_X11_250 ⟨_, _, rfl⟩ (by decide) (lo_28 hL1) rfl rfl (by decide) (Nat.le_of_ble_eq_true rfl) (Nat.le_of_ble_eq_true rfl) dX11_said_12 hB (fun r G2 hr => ?_)
    obtain ⟨r2, rfl, hE2, hB⟩ := hr
    have hL2 : Lay G2.2.2 := by rw [hE2]; exact hL1
    show Ev K mX11_said 11 15 [(0, .ref 1), (1, .int x1), (2, .int x2)] [.int r2] G2 _
    refine E_if_ne (tgt := 20) dX11_said_15 (by decide) (fun c => ?_) (fun c => ?_)
    · have hB := hB.1 c
      refine E_aload_n 0 dX11_said_20 rfl rfl rfl ?_
      refine E_gR (j := 28) fG_X11_58 rfl (lo_1 hL2) (lr_1_6 hL2) (by decide) dX11_said_21 ?_
      refine E_iload_n 1 dX11_said_24 rfl rfl ?_
      refine E_iload_n 2 dX11_said_25 rfl rfl ?_
      refine E_aload_n 0 dX11_said_26 rfl rfl rfl ?_
      refine E_gR (j := sR G2 1 8) fG_X11_72 rfl (lo_1 hL2) rfl (lhP (ly_8 hL2)) dX11_said_27 ?_
      refine E_aload_n 0 dX11_said_30 rfl rfl rfl ?_
      refine E_gR (j := sR G2 1 10) fG_X11_82 rfl (lo_1 hL2) rfl (ltP (ly_10 hL2)) dX11_said_31 ?_
      refine E_cV (ci := 4) (as := [.int x1, .int x2, .ref (sR G2 1 8), .ref (sR G2 1 10)]) (st := []) cm_X4_sentenceSign cV_X11_267 ⟨_, _, rfl⟩ (by decide) (lo_28 hL2) rfl rfl (by decide) (Nat.le_of_ble_eq_true rfl) (Nat.le_of_ble_eq_true rfl) dX11_said_34 hB (fun r G3 hr => ?_)
      obtain ⟨r3, rfl, hE3, hB⟩ := hr
      have hL3 : Lay G3.2.2 := by rw [hE3]; exact hL2
      show Ev K mX11_said 11 37 [(0, .ref 1), (1, .int x1), (2, .int x2)] [.int r3] G3 _
      exact E_iret rfl dX11_said_37 ⟨_, rfl, hB⟩
    · have hB := hB.2 c
      refine E_iconst (v := (-1)) dX11_said_18 (by decide) ?_
      exact E_iret rfl dX11_said_19 ⟨_, rfl, hB⟩

set_option maxRecDepth 20000 in
set_option maxHeartbeats 2000000 in
theorem kX11_choose_0 {K : KT} {G : St} {Q : Int32 → St → Prop} {x1 : Int32} (hL : Lay G.2.2) 
    (hB : EvIa K mX11_searched 10 0 [(0, .ref 1)] [] G (fun r1 G1 => Lay G1.2.2 ∧ ((r1 = 0 → Q (-1) G1) ∧ (¬ r1 = 0 → EvI K mX4_has 0 0 [(0, .ref 28), (1, .int x1)] [] G1 (fun r2 G2 => ((r2 = 0 → Q (-1) G2) ∧ (¬ r2 = 0 → EvI K mX4_chooseOne 2 0 [(0, .ref 28), (1, .int x1)] [] G2 (fun r3 G3 => Q r3 G3)))))))) :
    EvIa K mX11_choose 11 0 [(0, .ref 1), (1, .int x1)] [] G Q := by
  refine E_aload_n 0 dX11_choose_0 rfl rfl rfl ?_
  refine E_cV (ci := 10) (as := []) (st := []) cm_X11_searched cV_X11_139 ⟨_, _, rfl⟩ (by decide) (lo_1 hL) rfl rfl (by decide) (Nat.le_of_ble_eq_true rfl) (Nat.le_of_ble_eq_true rfl) dX11_choose_1 hB (fun r G1 hr => ?_)
  obtain ⟨r1, rfl, hL1, hB⟩ := hr
  show Ev K mX11_choose 11 4 [(0, .ref 1), (1, .int x1)] [.int r1] G1 _
  refine E_if_eq (tgt := 29) dX11_choose_4 (by decide) (fun c => ?_) (fun c => ?_)
  · have hB := hB.1 c
    refine E_iconst (v := (-1)) dX11_choose_29 (by decide) ?_
    exact E_iret rfl dX11_choose_30 ⟨_, rfl, hB⟩
  · have hB := hB.2 c
    refine E_aload_n 0 dX11_choose_7 rfl rfl rfl ?_
    refine E_gR (j := 28) fG_X11_58 rfl (lo_1 hL1) (lr_1_6 hL1) (by decide) dX11_choose_8 ?_
    refine E_iload_n 1 dX11_choose_11 rfl rfl ?_
    refine E_cV (ci := 4) (as := [.int x1]) (st := []) cm_X4_has cV_X11_250 ⟨_, _, rfl⟩ (by decide) (lo_28 hL1) rfl rfl (by decide) (Nat.le_of_ble_eq_true rfl) (Nat.le_of_ble_eq_true rfl) dX11_choose_12 hB (fun r G2 hr => ?_)
    obtain ⟨r2, rfl, hE2, hB⟩ := hr
    have hL2 : Lay G2.2.2 := by rw [hE2]; exact hL1
    show Ev K mX11_choose 11 15 [(0, .ref 1), (1, .int x1)] [.int r2] G2 _
    refine E_if_eq (tgt := 29) dX11_choose_15 (by decide) (fun c => ?_) (fun c => ?_)
    · have hB := hB.1 c
      refine E_iconst (v := (-1)) dX11_choose_29 (by decide) ?_
      exact E_iret rfl dX11_choose_30 ⟨_, rfl, hB⟩
    · have hB := hB.2 c
      refine E_aload_n 0 dX11_choose_18 rfl rfl rfl ?_
      refine E_gR (j := 28) fG_X11_58 rfl (lo_1 hL2) (lr_1_6 hL2) (by decide) dX11_choose_19 ?_
      refine E_iload_n 1 dX11_choose_22 rfl rfl ?_
      refine E_cV (ci := 4) (as := [.int x1]) (st := []) cm_X4_chooseOne cV_X11_271 ⟨_, _, rfl⟩ (by decide) (lo_28 hL2) rfl rfl (by decide) (Nat.le_of_ble_eq_true rfl) (Nat.le_of_ble_eq_true rfl) dX11_choose_23 hB (fun r G3 hr => ?_)
      obtain ⟨r3, rfl, hE3, hB⟩ := hr
      have hL3 : Lay G3.2.2 := by rw [hE3]; exact hL2
      show Ev K mX11_choose 11 26 [(0, .ref 1), (1, .int x1)] [.int r3] G3 _
      refine E_goto (tgt := 30) dX11_choose_26 (by decide) ?_
      exact E_iret rfl dX11_choose_30 ⟨_, rfl, hB⟩

set_option maxRecDepth 20000 in
set_option maxHeartbeats 2000000 in
theorem kX11_parts_0 {K : KT} {G : St} {Q : Int64 → St → Prop} {x1 : Int32} (hL : Lay G.2.2) 
    (hB : ((x1 < 0 → Q (-1) G) ∧ (¬ x1 < 0 → ((1 < x1 → Q (-1) G) ∧ (¬ 1 < x1 → EvIa K mX11_searched 10 0 [(0, .ref 1)] [] G (fun r1 G1 => Lay G1.2.2 ∧ ((¬ r1 = 0 → EvV K mX3_find 4 0 [(0, .ref 38), (1, .ref (sR G1 1 8)), (2, .ref (sR G1 1 10)), (3, .ref 18)] [] G1 (fun G2 => ((¬ (sL G2 38 0) = 0 → ((¬ x1 = 0 → Q (Int32.toInt64 (sI G2 38 1)) G2) ∧ (x1 = 0 → Q (sL G2 38 0) G2))) ∧ ((sL G2 38 0) = 0 → Q (-1) G2)))) ∧ (r1 = 0 → Q (-1) G1)))))))) :
    EvLa K mX11_parts 11 0 [(0, .ref 1), (1, .int x1)] [] G Q := by
  refine E_iload_n 1 dX11_parts_0 rfl rfl ?_
  refine E_if_lt (tgt := 16) dX11_parts_1 (by decide) (fun c => ?_) (fun c => ?_)
  · have hB := hB.1 c
    refine E_ldc2 (v := (-1)) tm_946 dX11_parts_16 ?_
    exact E_lret rfl dX11_parts_19 ⟨_, rfl, hB⟩
  · have hB := hB.2 c
    refine E_iload_n 1 dX11_parts_4 rfl rfl ?_
    refine E_iconst (v := 1) dX11_parts_5 (by decide) ?_
    refine E_icmp_gt (tgt := 16) dX11_parts_6 (by decide) (fun c => ?_) (fun c => ?_)
    · have hB := hB.1 c
      refine E_ldc2 (v := (-1)) tm_946 dX11_parts_16 ?_
      exact E_lret rfl dX11_parts_19 ⟨_, rfl, hB⟩
    · have hB := hB.2 c
      refine E_aload_n 0 dX11_parts_9 rfl rfl rfl ?_
      refine E_cV (ci := 10) (as := []) (st := []) cm_X11_searched cV_X11_139 ⟨_, _, rfl⟩ (by decide) (lo_1 hL) rfl rfl (by decide) (Nat.le_of_ble_eq_true rfl) (Nat.le_of_ble_eq_true rfl) dX11_parts_10 hB (fun r G1 hr => ?_)
      obtain ⟨r1, rfl, hL1, hB⟩ := hr
      show Ev K mX11_parts 11 13 [(0, .ref 1), (1, .int x1)] [.int r1] G1 _
      refine E_if_ne (tgt := 20) dX11_parts_13 (by decide) (fun c => ?_) (fun c => ?_)
      · have hB := hB.1 c
        refine E_aload_n 0 dX11_parts_20 rfl rfl rfl ?_
        refine E_gR (j := 38) fG_X11_65 rfl (lo_1 hL1) (lr_1_7 hL1) (by decide) dX11_parts_21 ?_
        refine E_aload_n 0 dX11_parts_24 rfl rfl rfl ?_
        refine E_gR (j := sR G1 1 8) fG_X11_72 rfl (lo_1 hL1) rfl (lhP (ly_8 hL1)) dX11_parts_25 ?_
        refine E_aload_n 0 dX11_parts_28 rfl rfl rfl ?_
        refine E_gR (j := sR G1 1 10) fG_X11_82 rfl (lo_1 hL1) rfl (ltP (ly_10 hL1)) dX11_parts_29 ?_
        refine E_aload_n 0 dX11_parts_32 rfl rfl rfl ?_
        refine E_gR (j := 18) fG_X11_51 rfl (lo_1 hL1) (lr_1_5 hL1) (by decide) dX11_parts_33 ?_
        refine E_cV (ci := 3) (as := [.ref (sR G1 1 8), .ref (sR G1 1 10), .ref 18]) (st := []) cm_X3_find cV_X11_274 ⟨_, _, rfl⟩ (by decide) (lo_38 hL1) rfl rfl (by decide) (Nat.le_of_ble_eq_true rfl) (Nat.le_of_ble_eq_true rfl) dX11_parts_36 hB (fun r G2 hr => ?_)
        obtain ⟨rfl, hE2, hB⟩ := hr
        have hL2 : Lay G2.2.2 := by rw [hE2]; exact hL1
        show Ev K mX11_parts 11 39 [(0, .ref 1), (1, .int x1)] [] G2 _
        refine E_aload_n 0 dX11_parts_39 rfl rfl rfl ?_
        refine E_gR (j := 38) fG_X11_65 rfl (lo_1 hL2) (lr_1_7 hL2) (by decide) dX11_parts_40 ?_
        refine E_gL (v := sL G2 38 0) fG_X11_277 rfl (lo_38 hL2) rfl dX11_parts_43 ?_
        refine E_lconst (v := 0) dX11_parts_46 (by decide) ?_
        refine E_lcmp dX11_parts_47 ?_
        refine E_if_ne (tgt := 55) dX11_parts_48 (by decide) (fun c => ?_) (fun c => ?_)
        · have hB := hB.1 ((fun q => c ((lgc_eq (sL G2 38 0) 0).mpr q)))
          refine E_iload_n 1 dX11_parts_55 rfl rfl ?_
          refine E_if_ne (tgt := 69) dX11_parts_56 (by decide) (fun c => ?_) (fun c => ?_)
          · have hB := hB.1 c
            refine E_aload_n 0 dX11_parts_69 rfl rfl rfl ?_
            refine E_gR (j := 38) fG_X11_65 rfl (lo_1 hL2) (lr_1_7 hL2) (by decide) dX11_parts_70 ?_
            refine E_gI (v := sI G2 38 1) fG_X11_281 rfl (lo_38 hL2) rfl dX11_parts_73 ?_
            refine E_i2l dX11_parts_76 rfl ?_
            exact E_lret rfl dX11_parts_77 ⟨_, rfl, hB⟩
          · have hB := hB.2 c
            refine E_aload_n 0 dX11_parts_59 rfl rfl rfl ?_
            refine E_gR (j := 38) fG_X11_65 rfl (lo_1 hL2) (lr_1_7 hL2) (by decide) dX11_parts_60 ?_
            refine E_gL (v := sL G2 38 0) fG_X11_277 rfl (lo_38 hL2) rfl dX11_parts_63 ?_
            refine E_goto (tgt := 77) dX11_parts_66 (by decide) ?_
            exact E_lret rfl dX11_parts_77 ⟨_, rfl, hB⟩
        · have hB := hB.2 ((lgc_eq (sL G2 38 0) 0).mp c)
          refine E_ldc2 (v := (-1)) tm_946 dX11_parts_51 ?_
          exact E_lret rfl dX11_parts_54 ⟨_, rfl, hB⟩
      · have hB := hB.2 c
        refine E_ldc2 (v := (-1)) tm_946 dX11_parts_16 ?_
        exact E_lret rfl dX11_parts_19 ⟨_, rfl, hB⟩

set_option maxRecDepth 20000 in
set_option maxHeartbeats 2000000 in
theorem kX11_left_0 {K : KT} {G : St} {Q : Int32 → St → Prop}  (hL : Lay G.2.2) 
    (hB : EvIa K mX11_searched 10 0 [(0, .ref 1)] [] G (fun r1 G1 => Lay G1.2.2 ∧ ((r1 = 0 → Q (-1) G1) ∧ (¬ r1 = 0 → EvI K mX6_leftOut 1 0 [(0, .ref 18)] [] G1 (fun r2 G2 => Q r2 G2))))) :
    EvIa K mX11_left 11 0 [(0, .ref 1)] [] G Q := by
  refine E_aload_n 0 dX11_left_0 rfl rfl rfl ?_
  refine E_cV (ci := 10) (as := []) (st := []) cm_X11_searched cV_X11_139 ⟨_, _, rfl⟩ (by decide) (lo_1 hL) rfl rfl (by decide) (Nat.le_of_ble_eq_true rfl) (Nat.le_of_ble_eq_true rfl) dX11_left_1 hB (fun r G1 hr => ?_)
  obtain ⟨r1, rfl, hL1, hB⟩ := hr
  show Ev K mX11_left 11 4 [(0, .ref 1)] [.int r1] G1 _
  refine E_if_eq (tgt := 17) dX11_left_4 (by decide) (fun c => ?_) (fun c => ?_)
  · have hB := hB.1 c
    refine E_iconst (v := (-1)) dX11_left_17 (by decide) ?_
    exact E_iret rfl dX11_left_18 ⟨_, rfl, hB⟩
  · have hB := hB.2 c
    refine E_aload_n 0 dX11_left_7 rfl rfl rfl ?_
    refine E_gR (j := 18) fG_X11_51 rfl (lo_1 hL1) (lr_1_5 hL1) (by decide) dX11_left_8 ?_
    refine E_cV (ci := 6) (as := []) (st := []) cm_X6_leftOut cV_X11_284 ⟨_, _, rfl⟩ (by decide) (lo_18 hL1) rfl rfl (by decide) (Nat.le_of_ble_eq_true rfl) (Nat.le_of_ble_eq_true rfl) dX11_left_11 hB (fun r G2 hr => ?_)
    obtain ⟨r2, rfl, hE2, hB⟩ := hr
    have hL2 : Lay G2.2.2 := by rw [hE2]; exact hL1
    show Ev K mX11_left 11 14 [(0, .ref 1)] [.int r2] G2 _
    refine E_goto (tgt := 18) dX11_left_14 (by decide) ?_
    exact E_iret rfl dX11_left_18 ⟨_, rfl, hB⟩

set_option maxRecDepth 20000 in
set_option maxHeartbeats 2000000 in
theorem kX11_near_0 {K : KT} {G : St} {Q : Int64 → St → Prop} {x1 : Int32} {x2 : Int32} (hL : Lay G.2.2) 
    (hB : EvI K mX11_isTerm 0 0 [(0, .ref 1), (1, .int x1)] [] G (fun r1 G1 => ((r1 = 0 → Q (-1) G1) ∧ (¬ r1 = 0 → vp_in x1 4 ∧ (((sI G1 ((sR G1 1 10) + 1) (Int32.toNatClampNeg x1)) = 0 → EvI K mX11_seen 2 0 [(0, .ref 1)] [] G1 (fun r3 G3 => vp_in x1 4 ∧ EvL K mX0_nearWord 3 0 [(0, .ref 5), (1, .ref (sR G1 1 8)), (2, .int r3), (3, .long (sL G3 ((sR G3 1 10) + 2) (Int32.toNatClampNeg x1))), (5, .int x2)] [] G3 (fun r5 G5 => Q r5 G5))) ∧ (¬ (sI G1 ((sR G1 1 10) + 1) (Int32.toNatClampNeg x1)) = 0 → Q (-1) G1)))))) :
    EvL K mX11_near 4 0 [(0, .ref 1), (1, .int x1), (2, .int x2)] [] G Q := by
  refine E_aload_n 0 dX11_near_0 rfl rfl rfl ?_
  refine E_iload_n 1 dX11_near_1 rfl rfl ?_
  refine E_cV (ci := 10) (as := [.int x1]) (st := []) cm_X11_isTerm cV_X11_195 ⟨_, _, rfl⟩ (by decide) (lo_1 hL) rfl rfl (by decide) (Nat.le_of_ble_eq_true rfl) (Nat.le_of_ble_eq_true rfl) dX11_near_2 hB (fun r G1 hr => ?_)
  obtain ⟨r1, rfl, hE1, hB⟩ := hr
  have hL1 : Lay G1.2.2 := by rw [hE1]; exact hL
  have hE1 : G1.2.2 = G.2.2 := hE1
  show Ev K mX11_near 4 5 [(0, .ref 1), (1, .int x1), (2, .int x2)] [.int r1] G1 _
  refine E_if_eq (tgt := 20) dX11_near_5 (by decide) (fun c => ?_) (fun c => ?_)
  · have hB := hB.1 c
    refine E_ldc2 (v := (-1)) tm_946 dX11_near_20 ?_
    exact E_lret rfl dX11_near_23 ⟨_, rfl, hE1, hB⟩
  · have hB := hB.2 c
    refine E_aload_n 0 dX11_near_8 rfl rfl rfl ?_
    refine E_gR (j := sR G1 1 10) fG_X11_82 rfl (lo_1 hL1) rfl (ltP (ly_10 hL1)) dX11_near_9 ?_
    refine E_gR (j := (sR G1 1 10) + 1) fG_X11_287 rfl (ltO hL1 (ly_10 hL1)) (ltR0 hL1 (ly_10 hL1)) (Nat.succ_pos _) dX11_near_12 ?_
    refine E_iload_n 1 dX11_near_15 rfl rfl ?_
    obtain ⟨qq2, hB⟩ := hB
    refine E_aI (p := Int32.toNatClampNeg x1) (v := sI G1 ((sR G1 1 10) + 1) (Int32.toNatClampNeg x1)) (ltA0 hL1 (ly_10 hL1)) qq2 rfl rfl dX11_near_16 ?_
    refine E_if_eq (tgt := 24) dX11_near_17 (by decide) (fun c => ?_) (fun c => ?_)
    · have hB := hB.1 c
      refine E_aload_n 0 dX11_near_24 rfl rfl rfl ?_
      refine E_gR (j := 5) fG_X11_28 rfl (lo_1 hL1) (lr_1_2 hL1) (by decide) dX11_near_25 ?_
      refine E_aload_n 0 dX11_near_28 rfl rfl rfl ?_
      refine E_gR (j := sR G1 1 8) fG_X11_72 rfl (lo_1 hL1) rfl (lhP (ly_8 hL1)) dX11_near_29 ?_
      refine E_aload_n 0 dX11_near_32 rfl rfl rfl ?_
      refine E_cV (ci := 10) (as := []) (st := [.ref (sR G1 1 8), .ref 5]) cm_X11_seen cV_X11_171 ⟨_, _, rfl⟩ (by decide) (lo_1 hL1) rfl rfl (by decide) (Nat.le_of_ble_eq_true rfl) (Nat.le_of_ble_eq_true rfl) dX11_near_33 hB (fun r G3 hr => ?_)
      obtain ⟨r3, rfl, hE3, hB⟩ := hr
      have hL3 : Lay G3.2.2 := by rw [hE3]; exact hL1
      have hE3 : G3.2.2 = G.2.2 := hE3.trans hE1
      show Ev K mX11_near 4 36 [(0, .ref 1), (1, .int x1), (2, .int x2)] [.int r3, .ref (sR G1 1 8), .ref 5] G3 _
      refine E_aload_n 0 dX11_near_36 rfl rfl rfl ?_
      refine E_gR (j := sR G3 1 10) fG_X11_82 rfl (lo_1 hL3) rfl (ltP (ly_10 hL3)) dX11_near_37 ?_
      refine E_gR (j := (sR G3 1 10) + 2) fG_X11_290 rfl (ltO hL3 (ly_10 hL3)) (ltR1 hL3 (ly_10 hL3)) (Nat.succ_pos _) dX11_near_40 ?_
      refine E_iload_n 1 dX11_near_43 rfl rfl ?_
      obtain ⟨qq4, hB⟩ := hB
      refine E_aL (p := Int32.toNatClampNeg x1) (v := sL G3 ((sR G3 1 10) + 2) (Int32.toNatClampNeg x1)) (ltA1 hL3 (ly_10 hL3)) qq4 rfl rfl dX11_near_44 ?_
      refine E_iload_n 2 dX11_near_45 rfl rfl ?_
      refine E_cV (ci := 0) (as := [.ref (sR G1 1 8), .int r3, .long (sL G3 ((sR G3 1 10) + 2) (Int32.toNatClampNeg x1)), .int x2]) (st := []) cm_X0_nearWord cV_X11_294 ⟨_, _, rfl⟩ (by decide) (lo_5 hL3) rfl rfl (by decide) (Nat.le_of_ble_eq_true rfl) (Nat.le_of_ble_eq_true rfl) dX11_near_46 hB (fun r G5 hr => ?_)
      obtain ⟨r5, rfl, hE5, hB⟩ := hr
      have hL5 : Lay G5.2.2 := by rw [hE5]; exact hL3
      have hE5 : G5.2.2 = G.2.2 := hE5.trans hE3
      show Ev K mX11_near 4 49 [(0, .ref 1), (1, .int x1), (2, .int x2)] [.long r5] G5 _
      exact E_lret rfl dX11_near_49 ⟨_, rfl, hE5, hB⟩
    · have hB := hB.2 c
      refine E_ldc2 (v := (-1)) tm_946 dX11_near_20 ?_
      exact E_lret rfl dX11_near_23 ⟨_, rfl, hE1, hB⟩

set_option maxRecDepth 20000 in
set_option maxHeartbeats 2000000 in
theorem kX11_meant_0 {K : KT} {G : St} {Q : Int32 → St → Prop} {x1 : Int32} (hL : Lay G.2.2) 
    (hB : (((sI G 65 0) < 40 → EvIa K mX11_meant 11 16 [(0, .ref 1), (1, .int x1)] [.int 0] G Q) ∧ (¬ (sI G 65 0) < 40 → EvIa K mX11_meant 11 16 [(0, .ref 1), (1, .int x1)] [.int 1] G Q))) :
    EvIa K mX11_meant 11 0 [(0, .ref 1), (1, .int x1)] [] G Q := by
  refine E_aload_n 0 dX11_meant_0 rfl rfl rfl ?_
  refine E_gR (j := 65) fG_X11_89 rfl (lo_1 hL) (lr_1_14 hL) (by decide) dX11_meant_1 ?_
  refine E_iconst (v := 0) dX11_meant_4 (by decide) ?_
  refine E_aI (p := 0) (v := sI G 65 0) (la_65 hL) (by unfold vp_in; decide) (by decide) rfl dX11_meant_5 ?_
  refine E_bipush (v := 40) dX11_meant_6 (by decide) ?_
  refine E_icmp_lt (tgt := 15) dX11_meant_8 (by decide) (fun c => ?_) (fun c => ?_)
  · have hB := hB.1 c
    refine E_iconst (v := 0) dX11_meant_15 (by decide) ?_
    exact hB
  · have hB := hB.2 c
    refine E_iconst (v := 1) dX11_meant_11 (by decide) ?_
    refine E_goto (tgt := 16) dX11_meant_12 (by decide) ?_
    exact hB

set_option maxRecDepth 20000 in
set_option maxHeartbeats 2000000 in
theorem kX11_meant_16 {K : KT} {G : St} {Q : Int32 → St → Prop} {x1 : Int32} {xs0 : Int32} (hL : Lay G.2.2) 
    (hB : ((x1 = 0 → Q (-1) G) ∧ (¬ x1 = 0 → EvI K mX1_told 0 0 [(0, .ref (sR G 1 8))] [] G (fun r1 G1 => ((¬ (x1 &&& (r1 ^^^ (-1))) = 0 → Q (-1) G1) ∧ ((x1 &&& (r1 ^^^ (-1))) = 0 → ((¬ xs0 = 0 → Q (-1) G1) ∧ (xs0 = 0 → EvIa K mX11_searched 10 0 [(0, .ref 1)] [] G1 (fun r2 G2 => Lay G2.2.2 ∧ ((¬ r2 = 0 → EvI K mX6_placeOf 2 0 [(0, .ref 18), (1, .int x1)] [] G2 (fun r3 G3 => ((r3 = (-1) → EvIa K mX11_meant 11 91 [(0, .ref 1)] [] G3 Q) ∧ (¬ r3 = (-1) → ((3 ≤ r3 → EvIa K mX11_meant 11 79 [(0, .ref 1)] [.int 0, .int (sI G3 65 1), .int 1, .ref 65] G3 Q) ∧ (¬ 3 ≤ r3 → EvIa K mX11_meant 11 79 [(0, .ref 1)] [.int 1, .int (sI G3 65 1), .int 1, .ref 65] G3 Q)))))) ∧ (r2 = 0 → Q (-1) G2))))))))))) :
    EvIa K mX11_meant 11 16 [(0, .ref 1), (1, .int x1)] [.int xs0] G Q := by
  refine E_istore_n (lv' := [(0, .ref 1), (1, .int x1), (2, .int xs0)]) dX11_meant_16 rfl (by decide) rfl ?_
  refine E_iload_n 1 dX11_meant_17 rfl rfl ?_
  refine E_if_eq (tgt := 46) dX11_meant_18 (by decide) (fun c => ?_) (fun c => ?_)
  · have hB := hB.1 c
    refine E_iconst (v := (-1)) dX11_meant_46 (by decide) ?_
    exact E_iret rfl dX11_meant_47 ⟨_, rfl, hB⟩
  · have hB := hB.2 c
    refine E_iload_n 1 dX11_meant_21 rfl rfl ?_
    refine E_aload_n 0 dX11_meant_22 rfl rfl rfl ?_
    refine E_gR (j := sR G 1 8) fG_X11_72 rfl (lo_1 hL) rfl (lhP (ly_8 hL)) dX11_meant_23 ?_
    refine E_cV (ci := 1) (as := []) (st := [.int x1]) cm_X1_told cV_X11_298 ⟨_, _, rfl⟩ (by decide) (lhO hL (ly_8 hL)) rfl rfl (by decide) (Nat.le_of_ble_eq_true rfl) (Nat.le_of_ble_eq_true rfl) dX11_meant_26 hB (fun r G1 hr => ?_)
    obtain ⟨r1, rfl, hE1, hB⟩ := hr
    have hL1 : Lay G1.2.2 := by rw [hE1]; exact hL
    show Ev K mX11_meant 11 29 [(0, .ref 1), (1, .int x1), (2, .int xs0)] [.int r1, .int x1] G1 _
    refine E_iconst (v := (-1)) dX11_meant_29 (by decide) ?_
    refine E_ixor dX11_meant_30 ?_
    refine E_iand dX11_meant_31 ?_
    refine E_if_ne (tgt := 46) dX11_meant_32 (by decide) (fun c => ?_) (fun c => ?_)
    · have hB := hB.1 c
      refine E_iconst (v := (-1)) dX11_meant_46 (by decide) ?_
      exact E_iret rfl dX11_meant_47 ⟨_, rfl, hB⟩
    · have hB := hB.2 c
      refine E_iload_n 2 dX11_meant_35 rfl rfl ?_
      refine E_if_ne (tgt := 46) dX11_meant_36 (by decide) (fun c => ?_) (fun c => ?_)
      · have hB := hB.1 c
        refine E_iconst (v := (-1)) dX11_meant_46 (by decide) ?_
        exact E_iret rfl dX11_meant_47 ⟨_, rfl, hB⟩
      · have hB := hB.2 c
        refine E_aload_n 0 dX11_meant_39 rfl rfl rfl ?_
        refine E_cV (ci := 10) (as := []) (st := []) cm_X11_searched cV_X11_139 ⟨_, _, rfl⟩ (by decide) (lo_1 hL1) rfl rfl (by decide) (Nat.le_of_ble_eq_true rfl) (Nat.le_of_ble_eq_true rfl) dX11_meant_40 hB (fun r G2 hr => ?_)
        obtain ⟨r2, rfl, hL2, hB⟩ := hr
        show Ev K mX11_meant 11 43 [(0, .ref 1), (1, .int x1), (2, .int xs0)] [.int r2] G2 _
        refine E_if_ne (tgt := 48) dX11_meant_43 (by decide) (fun c => ?_) (fun c => ?_)
        · have hB := hB.1 c
          refine E_aload_n 0 dX11_meant_48 rfl rfl rfl ?_
          refine E_gR (j := 18) fG_X11_51 rfl (lo_1 hL2) (lr_1_5 hL2) (by decide) dX11_meant_49 ?_
          refine E_iload_n 1 dX11_meant_52 rfl rfl ?_
          refine E_cV (ci := 6) (as := [.int x1]) (st := []) cm_X6_placeOf cV_X11_301 ⟨_, _, rfl⟩ (by decide) (lo_18 hL2) rfl rfl (by decide) (Nat.le_of_ble_eq_true rfl) (Nat.le_of_ble_eq_true rfl) dX11_meant_53 hB (fun r G3 hr => ?_)
          obtain ⟨r3, rfl, hE3, hB⟩ := hr
          have hL3 : Lay G3.2.2 := by rw [hE3]; exact hL2
          show Ev K mX11_meant 11 56 [(0, .ref 1), (1, .int x1), (2, .int xs0)] [.int r3] G3 _
          refine E_istore_n (lv' := [(0, .ref 1), (1, .int x1), (2, .int xs0), (3, .int r3)]) dX11_meant_56 rfl (by decide) rfl ?_
          refine E_iload_n 3 dX11_meant_57 rfl rfl ?_
          refine E_iconst (v := (-1)) dX11_meant_58 (by decide) ?_
          refine E_icmp_eq (tgt := 91) dX11_meant_59 (by decide) (fun c => ?_) (fun c => ?_)
          · have hB := hB.1 c
            refine E_sub (lv' := [(0, .ref 1)]) [0] rfl ?_
            exact hB
          · have hB := hB.2 c
            refine E_aload_n 0 dX11_meant_62 rfl rfl rfl ?_
            refine E_gR (j := 65) fG_X11_89 rfl (lo_1 hL3) (lr_1_14 hL3) (by decide) dX11_meant_63 ?_
            refine E_iconst (v := 1) dX11_meant_66 (by decide) ?_
            refine E_dup2 dX11_meant_67 rfl rfl ?_
            refine E_aI (p := 1) (v := sI G3 65 1) (la_65 hL3) (by unfold vp_in; decide) (by decide) rfl dX11_meant_68 ?_
            refine E_iload_n 3 dX11_meant_69 rfl rfl ?_
            refine E_iconst (v := 3) dX11_meant_70 (by decide) ?_
            refine E_icmp_ge (tgt := 78) dX11_meant_71 (by decide) (fun c => ?_) (fun c => ?_)
            · have hB := hB.1 c
              refine E_iconst (v := 0) dX11_meant_78 (by decide) ?_
              refine E_sub (lv' := [(0, .ref 1)]) [0] rfl ?_
              exact hB
            · have hB := hB.2 c
              refine E_iconst (v := 1) dX11_meant_74 (by decide) ?_
              refine E_goto (tgt := 79) dX11_meant_75 (by decide) ?_
              refine E_sub (lv' := [(0, .ref 1)]) [0] rfl ?_
              exact hB
        · have hB := hB.2 c
          refine E_iconst (v := (-1)) dX11_meant_46 (by decide) ?_
          exact E_iret rfl dX11_meant_47 ⟨_, rfl, hB⟩

set_option maxRecDepth 20000 in
set_option maxHeartbeats 2000000 in
theorem kX11_meant_79 {K : KT} {G : St} {Q : Int32 → St → Prop} {xs1 : Int32} {xs2 : Int32} {xs3 : Int32} (hL : Lay G.2.2) 
    (hB : vp_in xs1 3 ∧ EvIa K mX11_meant 11 91 [(0, .ref 1)] [] (uI (uI G 65 (Int32.toNatClampNeg xs1) (xs2 + xs3)) 65 2 ((sI (uI G 65 (Int32.toNatClampNeg xs1) (xs2 + xs3)) 65 2) + 1)) Q) :
    EvIa K mX11_meant 11 79 [(0, .ref 1)] [.int xs3, .int xs2, .int xs1, .ref 65] G Q := by
  refine E_iadd dX11_meant_79 ?_
  obtain ⟨qq1, hB⟩ := hB
  refine E_sI (p := Int32.toNatClampNeg xs1) (la_65 hL) qq1 rfl dX11_meant_80 ?_
  refine E_aload_n 0 dX11_meant_81 rfl rfl rfl ?_
  refine E_gR (j := 65) fG_X11_89 rfl (lo_1 hL) (lr_1_14 hL) (by decide) dX11_meant_82 ?_
  refine E_iconst (v := 2) dX11_meant_85 (by decide) ?_
  refine E_dup2 dX11_meant_86 rfl rfl ?_
  refine E_aI (p := 2) (v := sI (uI G 65 (Int32.toNatClampNeg xs1) (xs2 + xs3)) 65 2) (la_65 hL) (by unfold vp_in; decide) (by decide) rfl dX11_meant_87 ?_
  refine E_iconst (v := 1) dX11_meant_88 (by decide) ?_
  refine E_iadd dX11_meant_89 ?_
  refine E_sI (p := 2) (la_65 hL) (by unfold vp_in; decide) (by decide) dX11_meant_90 ?_
  exact hB

set_option maxRecDepth 20000 in
set_option maxHeartbeats 2000000 in
theorem kX11_meant_91 {K : KT} {G : St} {Q : Int32 → St → Prop}  (hL : Lay G.2.2) 
    (hB : Q (sI G 65 0) (uI G 65 0 ((sI G 65 0) + 1))) :
    EvIa K mX11_meant 11 91 [(0, .ref 1)] [] G Q := by
  refine E_aload_n 0 dX11_meant_91 rfl rfl rfl ?_
  refine E_gR (j := 65) fG_X11_89 rfl (lo_1 hL) (lr_1_14 hL) (by decide) dX11_meant_92 ?_
  refine E_iconst (v := 0) dX11_meant_95 (by decide) ?_
  refine E_dup2 dX11_meant_96 rfl rfl ?_
  refine E_aI (p := 0) (v := sI G 65 0) (la_65 hL) (by unfold vp_in; decide) (by decide) rfl dX11_meant_97 ?_
  refine E_dup_x2 dX11_meant_98 rfl rfl rfl ?_
  refine E_iconst (v := 1) dX11_meant_99 (by decide) ?_
  refine E_iadd dX11_meant_100 ?_
  refine E_sI (p := 0) (la_65 hL) (by unfold vp_in; decide) (by decide) dX11_meant_101 ?_
  exact E_iret rfl dX11_meant_102 ⟨_, rfl, hB⟩

set_option maxRecDepth 20000 in
set_option maxHeartbeats 2000000 in
theorem kX11_judged_0 {K : KT} {G : St} {Q : Int32 → St → Prop} {x1 : Int32} (hL : Lay G.2.2) 
    (hB : ((x1 < 0 → Q (-1) G) ∧ (¬ x1 < 0 → (((nI 3) ≤ x1 → Q (-1) G) ∧ (¬ (nI 3) ≤ x1 → vp_in x1 3 ∧ Q (sI G 65 (Int32.toNatClampNeg x1)) G))))) :
    EvI K mX11_judged 0 0 [(0, .ref 1), (1, .int x1)] [] G Q := by
  refine E_iload_n 1 dX11_judged_0 rfl rfl ?_
  refine E_if_lt (tgt := 22) dX11_judged_1 (by decide) (fun c => ?_) (fun c => ?_)
  · have hB := hB.1 c
    refine E_iconst (v := (-1)) dX11_judged_22 (by decide) ?_
    exact E_iret rfl dX11_judged_23 ⟨_, rfl, rfl, hB⟩
  · have hB := hB.2 c
    refine E_iload_n 1 dX11_judged_4 rfl rfl ?_
    refine E_aload_n 0 dX11_judged_5 rfl rfl rfl ?_
    refine E_gR (j := 65) fG_X11_89 rfl (lo_1 hL) (lr_1_14 hL) (by decide) dX11_judged_6 ?_
    refine E_len (v := nI 3) (la_65 hL) (by decide) rfl dX11_judged_9 ?_
    refine E_icmp_ge (tgt := 22) dX11_judged_10 (by decide) (fun c => ?_) (fun c => ?_)
    · have hB := hB.1 c
      refine E_iconst (v := (-1)) dX11_judged_22 (by decide) ?_
      exact E_iret rfl dX11_judged_23 ⟨_, rfl, rfl, hB⟩
    · have hB := hB.2 c
      refine E_aload_n 0 dX11_judged_13 rfl rfl rfl ?_
      refine E_gR (j := 65) fG_X11_89 rfl (lo_1 hL) (lr_1_14 hL) (by decide) dX11_judged_14 ?_
      refine E_iload_n 1 dX11_judged_17 rfl rfl ?_
      obtain ⟨qq1, hB⟩ := hB
      refine E_aI (p := Int32.toNatClampNeg x1) (v := sI G 65 (Int32.toNatClampNeg x1)) (la_65 hL) qq1 rfl rfl dX11_judged_18 ?_
      refine E_goto (tgt := 23) dX11_judged_19 (by decide) ?_
      exact E_iret rfl dX11_judged_23 ⟨_, rfl, rfl, hB⟩

set_option maxRecDepth 20000 in
set_option maxHeartbeats 2000000 in
theorem kX11_person_0 {K : KT} {G : St} {Q : Int32 → St → Prop} {x1 : Int32} (hL : Lay G.2.2) 
    (hB : ((x1 < 0 → Q 0 G) ∧ (¬ x1 < 0 → ((x1 < 4 → EvI K mX11_seen 2 0 [(0, .ref 1)] [] G (fun r1 G1 => EvI K mX11_seen 2 0 [(0, .ref 1)] [] (uI G1 1 12 x1) (fun r2 G2 => ((r2 = r1 → Q 1 G2) ∧ (¬ r2 = r1 → EvV K mX11_sightChanged 1 0 [(0, .ref 1)] [] G2 (fun G3 => Q 1 G3)))))) ∧ (¬ x1 < 4 → Q 0 G))))) :
    EvI K mX11_person 3 0 [(0, .ref 1), (1, .int x1)] [] G Q := by
  refine E_iload_n 1 dX11_person_0 rfl rfl ?_
  refine E_if_lt (tgt := 9) dX11_person_1 (by decide) (fun c => ?_) (fun c => ?_)
  · have hB := hB.1 c
    refine E_iconst (v := 0) dX11_person_9 (by decide) ?_
    exact E_zret rfl (Or.inl rfl) dX11_person_10 ⟨_, rfl, rfl, hB⟩
  · have hB := hB.2 c
    refine E_iload_n 1 dX11_person_4 rfl rfl ?_
    refine E_iconst (v := 4) dX11_person_5 (by decide) ?_
    refine E_icmp_lt (tgt := 11) dX11_person_6 (by decide) (fun c => ?_) (fun c => ?_)
    · have hB := hB.1 c
      refine E_aload_n 0 dX11_person_11 rfl rfl rfl ?_
      refine E_cV (ci := 10) (as := []) (st := []) cm_X11_seen cV_X11_171 ⟨_, _, rfl⟩ (by decide) (lo_1 hL) rfl rfl (by decide) (Nat.le_of_ble_eq_true rfl) (Nat.le_of_ble_eq_true rfl) dX11_person_12 hB (fun r G1 hr => ?_)
      obtain ⟨r1, rfl, hE1, hB⟩ := hr
      have hL1 : Lay G1.2.2 := by rw [hE1]; exact hL
      have hE1 : G1.2.2 = G.2.2 := hE1
      show Ev K mX11_person 3 15 [(0, .ref 1), (1, .int x1)] [.int r1] G1 _
      refine E_istore_n (lv' := [(0, .ref 1), (1, .int x1), (2, .int r1)]) dX11_person_15 rfl (by decide) rfl ?_
      refine E_aload_n 0 dX11_person_16 rfl rfl rfl ?_
      refine E_iload_n 1 dX11_person_17 rfl rfl ?_
      refine E_pI fP_X11_304 rfl (lo_1 hL1) dX11_person_18 ?_
      refine E_aload_n 0 dX11_person_21 rfl rfl rfl ?_
      refine E_cV (ci := 10) (as := []) (st := []) cm_X11_seen cV_X11_171 ⟨_, _, rfl⟩ (by decide) (lo_1 hL1) rfl rfl (by decide) (Nat.le_of_ble_eq_true rfl) (Nat.le_of_ble_eq_true rfl) dX11_person_22 hB (fun r G2 hr => ?_)
      obtain ⟨r2, rfl, hE2, hB⟩ := hr
      have hL2 : Lay G2.2.2 := by rw [hE2]; exact hL1
      have hE2 : G2.2.2 = G.2.2 := hE2.trans hE1
      show Ev K mX11_person 3 25 [(0, .ref 1), (1, .int x1), (2, .int r1)] [.int r2] G2 _
      refine E_iload_n 2 dX11_person_25 rfl rfl ?_
      refine E_icmp_eq (tgt := 33) dX11_person_26 (by decide) (fun c => ?_) (fun c => ?_)
      · have hB := hB.1 c
        refine E_iconst (v := 1) dX11_person_33 (by decide) ?_
        exact E_zret rfl (Or.inr rfl) dX11_person_34 ⟨_, rfl, hE2, hB⟩
      · have hB := hB.2 c
        refine E_aload_n 0 dX11_person_29 rfl rfl rfl ?_
        refine E_cV (ci := 10) (as := []) (st := []) cm_X11_sightChanged cV_X11_124 ⟨_, _, rfl⟩ (by decide) (lo_1 hL2) rfl rfl (by decide) (Nat.le_of_ble_eq_true rfl) (Nat.le_of_ble_eq_true rfl) dX11_person_30 hB (fun r G3 hr => ?_)
        obtain ⟨rfl, hE3, hB⟩ := hr
        have hL3 : Lay G3.2.2 := by rw [hE3]; exact hL2
        have hE3 : G3.2.2 = G.2.2 := hE3.trans hE2
        show Ev K mX11_person 3 33 [(0, .ref 1), (1, .int x1), (2, .int r1)] [] G3 _
        refine E_iconst (v := 1) dX11_person_33 (by decide) ?_
        exact E_zret rfl (Or.inr rfl) dX11_person_34 ⟨_, rfl, hE3, hB⟩
    · have hB := hB.2 c
      refine E_iconst (v := 0) dX11_person_9 (by decide) ?_
      exact E_zret rfl (Or.inl rfl) dX11_person_10 ⟨_, rfl, rfl, hB⟩

set_option maxRecDepth 20000 in
set_option maxHeartbeats 2000000 in
theorem kX11_hide_0 {K : KT} {G : St} {Q : Int32 → St → Prop} {x1 : Int32} {x2 : Int32} {x3 : Int32} (hL : Lay G.2.2) 
    (hB : ((x1 < 0 → Q 0 G) ∧ (¬ x1 < 0 → ((4 ≤ x1 → Q 0 G) ∧ (¬ 4 ≤ x1 → EvI K mX1_isTold 0 0 [(0, .ref (sR G 1 8)), (1, .int x2)] [] G (fun r1 G1 => ((¬ r1 = 0 → EvI K mX11_seen 2 0 [(0, .ref 1)] [] G1 (fun r2 G2 => EvV K mX1_setHidden 0 0 [(0, .ref (sR G2 1 8)), (1, .int x1), (2, .int x2), (3, .int x3)] [] G2 (fun G3 => EvI K mX11_seen 2 0 [(0, .ref 1)] [] G3 (fun r4 G4 => ((r4 = r2 → Q 1 G4) ∧ (¬ r4 = r2 → EvV K mX11_sightChanged 1 0 [(0, .ref 1)] [] G4 (fun G5 => Q 1 G5))))))) ∧ (r1 = 0 → Q 0 G1)))))))) :
    EvI K mX11_hide 3 0 [(0, .ref 1), (1, .int x1), (2, .int x2), (3, .int x3)] [] G Q := by
  refine E_iload_n 1 dX11_hide_0 rfl rfl ?_
  refine E_if_lt (tgt := 20) dX11_hide_1 (by decide) (fun c => ?_) (fun c => ?_)
  · have hB := hB.1 c
    refine E_iconst (v := 0) dX11_hide_20 (by decide) ?_
    exact E_zret rfl (Or.inl rfl) dX11_hide_21 ⟨_, rfl, rfl, hB⟩
  · have hB := hB.2 c
    refine E_iload_n 1 dX11_hide_4 rfl rfl ?_
    refine E_iconst (v := 4) dX11_hide_5 (by decide) ?_
    refine E_icmp_ge (tgt := 20) dX11_hide_6 (by decide) (fun c => ?_) (fun c => ?_)
    · have hB := hB.1 c
      refine E_iconst (v := 0) dX11_hide_20 (by decide) ?_
      exact E_zret rfl (Or.inl rfl) dX11_hide_21 ⟨_, rfl, rfl, hB⟩
    · have hB := hB.2 c
      refine E_aload_n 0 dX11_hide_9 rfl rfl rfl ?_
      refine E_gR (j := sR G 1 8) fG_X11_72 rfl (lo_1 hL) rfl (lhP (ly_8 hL)) dX11_hide_10 ?_
      refine E_iload_n 2 dX11_hide_13 rfl rfl ?_
      refine E_cV (ci := 1) (as := [.int x2]) (st := []) cm_X1_isTold cV_X11_158 ⟨_, _, rfl⟩ (by decide) (lhO hL (ly_8 hL)) rfl rfl (by decide) (Nat.le_of_ble_eq_true rfl) (Nat.le_of_ble_eq_true rfl) dX11_hide_14 hB (fun r G1 hr => ?_)
      obtain ⟨r1, rfl, hE1, hB⟩ := hr
      have hL1 : Lay G1.2.2 := by rw [hE1]; exact hL
      have hE1 : G1.2.2 = G.2.2 := hE1
      show Ev K mX11_hide 3 17 [(0, .ref 1), (1, .int x1), (2, .int x2), (3, .int x3)] [.int r1] G1 _
      refine E_if_ne (tgt := 22) dX11_hide_17 (by decide) (fun c => ?_) (fun c => ?_)
      · have hB := hB.1 c
        refine E_aload_n 0 dX11_hide_22 rfl rfl rfl ?_
        refine E_cV (ci := 10) (as := []) (st := []) cm_X11_seen cV_X11_171 ⟨_, _, rfl⟩ (by decide) (lo_1 hL1) rfl rfl (by decide) (Nat.le_of_ble_eq_true rfl) (Nat.le_of_ble_eq_true rfl) dX11_hide_23 hB (fun r G2 hr => ?_)
        obtain ⟨r2, rfl, hE2, hB⟩ := hr
        have hL2 : Lay G2.2.2 := by rw [hE2]; exact hL1
        have hE2 : G2.2.2 = G.2.2 := hE2.trans hE1
        show Ev K mX11_hide 3 26 [(0, .ref 1), (1, .int x1), (2, .int x2), (3, .int x3)] [.int r2] G2 _
        refine E_istore (lv' := [(0, .ref 1), (1, .int x1), (2, .int x2), (3, .int x3), (4, .int r2)]) dX11_hide_26 (by decide) rfl ?_
        refine E_aload_n 0 dX11_hide_28 rfl rfl rfl ?_
        refine E_gR (j := sR G2 1 8) fG_X11_72 rfl (lo_1 hL2) rfl (lhP (ly_8 hL2)) dX11_hide_29 ?_
        refine E_iload_n 1 dX11_hide_32 rfl rfl ?_
        refine E_iload_n 2 dX11_hide_33 rfl rfl ?_
        refine E_iload_n 3 dX11_hide_34 rfl rfl ?_
        refine E_cV (ci := 1) (as := [.int x1, .int x2, .int x3]) (st := []) cm_X1_setHidden cV_X11_307 ⟨_, _, rfl⟩ (by decide) (lhO hL2 (ly_8 hL2)) rfl rfl (by decide) (Nat.le_of_ble_eq_true rfl) (Nat.le_of_ble_eq_true rfl) dX11_hide_35 hB (fun r G3 hr => ?_)
        obtain ⟨rfl, hE3, hB⟩ := hr
        have hL3 : Lay G3.2.2 := by rw [hE3]; exact hL2
        have hE3 : G3.2.2 = G.2.2 := hE3.trans hE2
        show Ev K mX11_hide 3 38 [(0, .ref 1), (1, .int x1), (2, .int x2), (3, .int x3), (4, .int r2)] [] G3 _
        refine E_aload_n 0 dX11_hide_38 rfl rfl rfl ?_
        refine E_cV (ci := 10) (as := []) (st := []) cm_X11_seen cV_X11_171 ⟨_, _, rfl⟩ (by decide) (lo_1 hL3) rfl rfl (by decide) (Nat.le_of_ble_eq_true rfl) (Nat.le_of_ble_eq_true rfl) dX11_hide_39 hB (fun r G4 hr => ?_)
        obtain ⟨r4, rfl, hE4, hB⟩ := hr
        have hL4 : Lay G4.2.2 := by rw [hE4]; exact hL3
        have hE4 : G4.2.2 = G.2.2 := hE4.trans hE3
        show Ev K mX11_hide 3 42 [(0, .ref 1), (1, .int x1), (2, .int x2), (3, .int x3), (4, .int r2)] [.int r4] G4 _
        refine E_iload 4 dX11_hide_42 rfl ?_
        refine E_icmp_eq (tgt := 51) dX11_hide_44 (by decide) (fun c => ?_) (fun c => ?_)
        · have hB := hB.1 c
          refine E_iconst (v := 1) dX11_hide_51 (by decide) ?_
          exact E_zret rfl (Or.inr rfl) dX11_hide_52 ⟨_, rfl, hE4, hB⟩
        · have hB := hB.2 c
          refine E_aload_n 0 dX11_hide_47 rfl rfl rfl ?_
          refine E_cV (ci := 10) (as := []) (st := []) cm_X11_sightChanged cV_X11_124 ⟨_, _, rfl⟩ (by decide) (lo_1 hL4) rfl rfl (by decide) (Nat.le_of_ble_eq_true rfl) (Nat.le_of_ble_eq_true rfl) dX11_hide_48 hB (fun r G5 hr => ?_)
          obtain ⟨rfl, hE5, hB⟩ := hr
          have hL5 : Lay G5.2.2 := by rw [hE5]; exact hL4
          have hE5 : G5.2.2 = G.2.2 := hE5.trans hE4
          show Ev K mX11_hide 3 51 [(0, .ref 1), (1, .int x1), (2, .int x2), (3, .int x3), (4, .int r2)] [] G5 _
          refine E_iconst (v := 1) dX11_hide_51 (by decide) ?_
          exact E_zret rfl (Or.inr rfl) dX11_hide_52 ⟨_, rfl, hE5, hB⟩
      · have hB := hB.2 c
        refine E_iconst (v := 0) dX11_hide_20 (by decide) ?_
        exact E_zret rfl (Or.inl rfl) dX11_hide_21 ⟨_, rfl, hE1, hB⟩

set_option maxRecDepth 20000 in
set_option maxHeartbeats 2000000 in
theorem kX11_freshenOffers_0 {K : KT} {G : St} {Q : St → Prop}  (hL : Lay G.2.2) 
    (hB : ((¬ (sI G 1 17) = 0 → Q G) ∧ ((sI G 1 17) = 0 → EvI K mX11_seen 2 0 [(0, .ref 1)] [] G (fun r1 G1 => EvV K mX2_fill 5 0 [(0, .ref 14), (1, .ref (sR G 1 8)), (2, .int r1)] [] G1 (fun G2 => Q (uI G2 1 17 1)))))) :
    EvV K mX11_freshenOffers 6 0 [(0, .ref 1)] [] G Q := by
  refine E_aload_n 0 dX11_freshenOffers_0 rfl rfl rfl ?_
  refine E_gI (v := sI G 1 17) fG_X11_364 rfl (lo_1 hL) rfl dX11_freshenOffers_1 ?_
  refine E_if_ne (tgt := 27) dX11_freshenOffers_4 (by decide) (fun c => ?_) (fun c => ?_)
  · have hB := hB.1 c
    exact E_vret rfl dX11_freshenOffers_27 ⟨rfl, rfl, hB⟩
  · have hB := hB.2 c
    refine E_aload_n 0 dX11_freshenOffers_7 rfl rfl rfl ?_
    refine E_gR (j := 14) fG_X11_42 rfl (lo_1 hL) (lr_1_4 hL) (by decide) dX11_freshenOffers_8 ?_
    refine E_aload_n 0 dX11_freshenOffers_11 rfl rfl rfl ?_
    refine E_gR (j := sR G 1 8) fG_X11_72 rfl (lo_1 hL) rfl (lhP (ly_8 hL)) dX11_freshenOffers_12 ?_
    refine E_aload_n 0 dX11_freshenOffers_15 rfl rfl rfl ?_
    refine E_cV (ci := 10) (as := []) (st := [.ref (sR G 1 8), .ref 14]) cm_X11_seen cV_X11_171 ⟨_, _, rfl⟩ (by decide) (lo_1 hL) rfl rfl (by decide) (Nat.le_of_ble_eq_true rfl) (Nat.le_of_ble_eq_true rfl) dX11_freshenOffers_16 hB (fun r G1 hr => ?_)
    obtain ⟨r1, rfl, hE1, hB⟩ := hr
    have hL1 : Lay G1.2.2 := by rw [hE1]; exact hL
    have hE1 : G1.2.2 = G.2.2 := hE1
    show Ev K mX11_freshenOffers 6 19 [(0, .ref 1)] [.int r1, .ref (sR G 1 8), .ref 14] G1 _
    refine E_cV (ci := 2) (as := [.ref (sR G 1 8), .int r1]) (st := []) cm_X2_fill cV_X11_379 ⟨_, _, rfl⟩ (by decide) (lo_14 hL1) rfl rfl (by decide) (Nat.le_of_ble_eq_true rfl) (Nat.le_of_ble_eq_true rfl) dX11_freshenOffers_19 hB (fun r G2 hr => ?_)
    obtain ⟨rfl, hE2, hB⟩ := hr
    have hL2 : Lay G2.2.2 := by rw [hE2]; exact hL1
    have hE2 : G2.2.2 = G.2.2 := hE2.trans hE1
    show Ev K mX11_freshenOffers 6 22 [(0, .ref 1)] [] G2 _
    refine E_aload_n 0 dX11_freshenOffers_22 rfl rfl rfl ?_
    refine E_iconst (v := 1) dX11_freshenOffers_23 (by decide) ?_
    refine E_pZ fP_X11_364 rfl (lo_1 hL2) (Or.inr rfl) dX11_freshenOffers_24 ?_
    exact E_vret rfl dX11_freshenOffers_27 ⟨rfl, hE2, hB⟩

set_option maxRecDepth 20000 in
set_option maxHeartbeats 2000000 in
theorem kX11_offered_0 {K : KT} {G : St} {Q : Int32 → St → Prop} {x1 : Int32} (hL : Lay G.2.2) 
    (hB : EvV K mX11_freshenOffers 6 0 [(0, .ref 1)] [] G (fun G1 => EvI K mX2_codeAt 0 0 [(0, .ref 14), (1, .int x1)] [] G1 (fun r2 G2 => Q r2 G2))) :
    EvI K mX11_offered 7 0 [(0, .ref 1), (1, .int x1)] [] G Q := by
  refine E_aload_n 0 dX11_offered_0 rfl rfl rfl ?_
  refine E_cV (ci := 10) (as := []) (st := []) cm_X11_freshenOffers cV_X11_311 ⟨_, _, rfl⟩ (by decide) (lo_1 hL) rfl rfl (by decide) (Nat.le_of_ble_eq_true rfl) (Nat.le_of_ble_eq_true rfl) dX11_offered_1 hB (fun r G1 hr => ?_)
  obtain ⟨rfl, hE1, hB⟩ := hr
  have hL1 : Lay G1.2.2 := by rw [hE1]; exact hL
  have hE1 : G1.2.2 = G.2.2 := hE1
  show Ev K mX11_offered 7 4 [(0, .ref 1), (1, .int x1)] [] G1 _
  refine E_aload_n 0 dX11_offered_4 rfl rfl rfl ?_
  refine E_gR (j := 14) fG_X11_42 rfl (lo_1 hL1) (lr_1_4 hL1) (by decide) dX11_offered_5 ?_
  refine E_iload_n 1 dX11_offered_8 rfl rfl ?_
  refine E_cV (ci := 2) (as := [.int x1]) (st := []) cm_X2_codeAt cV_X11_314 ⟨_, _, rfl⟩ (by decide) (lo_14 hL1) rfl rfl (by decide) (Nat.le_of_ble_eq_true rfl) (Nat.le_of_ble_eq_true rfl) dX11_offered_9 hB (fun r G2 hr => ?_)
  obtain ⟨r2, rfl, hE2, hB⟩ := hr
  have hL2 : Lay G2.2.2 := by rw [hE2]; exact hL1
  have hE2 : G2.2.2 = G.2.2 := hE2.trans hE1
  show Ev K mX11_offered 7 12 [(0, .ref 1), (1, .int x1)] [.int r2] G2 _
  exact E_iret rfl dX11_offered_12 ⟨_, rfl, hE2, hB⟩

set_option maxRecDepth 20000 in
set_option maxHeartbeats 2000000 in
theorem kX11_lets_0 {K : KT} {G : St} {Q : Int32 → St → Prop} {x1 : Int32} (hL : Lay G.2.2) 
    (hB : EvV K mX11_freshenOffers 6 0 [(0, .ref 1)] [] G (fun G1 => EvI K mX2_letOne 1 0 [(0, .ref 14), (1, .int x1)] [] G1 (fun r2 G2 => ((¬ r2 = 0 → Q 1 (uI (uI G2 1 15 0) 1 18 0)) ∧ (r2 = 0 → Q 0 G2))))) :
    EvI K mX11_lets 7 0 [(0, .ref 1), (1, .int x1)] [] G Q := by
  refine E_aload_n 0 dX11_lets_0 rfl rfl rfl ?_
  refine E_cV (ci := 10) (as := []) (st := []) cm_X11_freshenOffers cV_X11_311 ⟨_, _, rfl⟩ (by decide) (lo_1 hL) rfl rfl (by decide) (Nat.le_of_ble_eq_true rfl) (Nat.le_of_ble_eq_true rfl) dX11_lets_1 hB (fun r G1 hr => ?_)
  obtain ⟨rfl, hE1, hB⟩ := hr
  have hL1 : Lay G1.2.2 := by rw [hE1]; exact hL
  have hE1 : G1.2.2 = G.2.2 := hE1
  show Ev K mX11_lets 7 4 [(0, .ref 1), (1, .int x1)] [] G1 _
  refine E_aload_n 0 dX11_lets_4 rfl rfl rfl ?_
  refine E_gR (j := 14) fG_X11_42 rfl (lo_1 hL1) (lr_1_4 hL1) (by decide) dX11_lets_5 ?_
  refine E_iload_n 1 dX11_lets_8 rfl rfl ?_
  refine E_cV (ci := 2) (as := [.int x1]) (st := []) cm_X2_letOne cV_X11_317 ⟨_, _, rfl⟩ (by decide) (lo_14 hL1) rfl rfl (by decide) (Nat.le_of_ble_eq_true rfl) (Nat.le_of_ble_eq_true rfl) dX11_lets_9 hB (fun r G2 hr => ?_)
  obtain ⟨r2, rfl, hE2, hB⟩ := hr
  have hL2 : Lay G2.2.2 := by rw [hE2]; exact hL1
  have hE2 : G2.2.2 = G.2.2 := hE2.trans hE1
  show Ev K mX11_lets 7 12 [(0, .ref 1), (1, .int x1)] [.int r2] G2 _
  refine E_if_ne (tgt := 17) dX11_lets_12 (by decide) (fun c => ?_) (fun c => ?_)
  · have hB := hB.1 c
    refine E_aload_n 0 dX11_lets_17 rfl rfl rfl ?_
    refine E_iconst (v := 0) dX11_lets_18 (by decide) ?_
    refine E_pZ fP_X11_320 rfl (lo_1 hL2) (Or.inl rfl) dX11_lets_19 ?_
    refine E_aload_n 0 dX11_lets_22 rfl rfl rfl ?_
    refine E_iconst (v := 0) dX11_lets_23 (by decide) ?_
    refine E_pZ fP_X11_154 rfl (lo_1 hL2) (Or.inl rfl) dX11_lets_24 ?_
    refine E_iconst (v := 1) dX11_lets_27 (by decide) ?_
    exact E_zret rfl (Or.inr rfl) dX11_lets_28 ⟨_, rfl, hE2, hB⟩
  · have hB := hB.2 c
    refine E_iconst (v := 0) dX11_lets_15 (by decide) ?_
    exact E_zret rfl (Or.inl rfl) dX11_lets_16 ⟨_, rfl, hE2, hB⟩

set_option maxRecDepth 20000 in
set_option maxHeartbeats 2000000 in
theorem kX11_count_0 {K : KT} {G : St} {Q : Int32 → St → Prop} {x1 : Int32} (hL : Lay G.2.2) 
    (hB : ((x1 = 0 → Q (sI G (sR G 1 8) 9) G) ∧ (x1 = 1 → Q (sI G (sR G 1 8) 10) G) ∧ (x1 = 2 → EvI K mX11_seen 2 0 [(0, .ref 1)] [] G (fun r1 G1 => EvI K mJ6_bitCount_0f7a4 0 0 [(0, .int r1)] [] G1 (fun r2 G2 => Q r2 G2))) ∧ (x1 = 3 → Q (sI G (sR G 1 10) 2) G) ∧ (x1 = 4 → EvIa K mX11_searched 10 0 [(0, .ref 1)] [] G (fun r3 G3 => Lay G3.2.2 ∧ ((r3 = 0 → Q 0 G3) ∧ (¬ r3 = 0 → Q (sI G3 18 17) G3)))) ∧ (x1 = 5 → EvIa K mX11_searched 10 0 [(0, .ref 1)] [] G (fun r4 G4 => Lay G4.2.2 ∧ ((r4 = 0 → Q 0 G4) ∧ (¬ r4 = 0 → Q (sI G4 28 12) G4)))) ∧ (x1 = 6 → Q (sI G 2 2) G) ∧ (x1 = 7 → EvV K mX11_freshenOffers 6 0 [(0, .ref 1)] [] G (fun G5 => Q (sI G5 14 3) G5)) ∧ (x1 = 8 → Q (sI G 14 4) G) ∧ (x1 = 9 → EvV K mX11_freshenTies 5 0 [(0, .ref 1)] [] G (fun G6 => Q (sI G6 11 2) G6)) ∧ (¬ x1 = 0 → ¬ x1 = 1 → ¬ x1 = 2 → ¬ x1 = 3 → ¬ x1 = 4 → ¬ x1 = 5 → ¬ x1 = 6 → ¬ x1 = 7 → ¬ x1 = 8 → ¬ x1 = 9 → Q (-1) G))) :
    EvIa K mX11_count 11 0 [(0, .ref 1), (1, .int x1)] [] G Q := by
  refine E_iload_n 1 dX11_count_0 rfl rfl ?_
  obtain ⟨hA, hB⟩ := hB
  by_cases c0 : x1 = 0
  · have hB := hA c0
    refine E_tableIn (off := 55) (tgt := 56) dX11_count_1 (by rw [c0]; decide) (by rw [c0]; decide) (by rw [c0]; decide) (by decide) ?_
    refine E_aload_n 0 dX11_count_56 rfl rfl rfl ?_
    refine E_gR (j := sR G 1 8) fG_X11_72 rfl (lo_1 hL) rfl (lhP (ly_8 hL)) dX11_count_57 ?_
    refine E_gI (v := sI G (sR G 1 8) 9) fG_X11_323 rfl (lhO hL (ly_8 hL)) rfl dX11_count_60 ?_
    exact E_iret rfl dX11_count_63 ⟨_, rfl, hB⟩
  obtain ⟨hA, hB⟩ := hB
  by_cases c1 : x1 = 1
  · have hB := hA c1
    refine E_tableIn (off := 63) (tgt := 64) dX11_count_1 (by rw [c1]; decide) (by rw [c1]; decide) (by rw [c1]; decide) (by decide) ?_
    refine E_aload_n 0 dX11_count_64 rfl rfl rfl ?_
    refine E_gR (j := sR G 1 8) fG_X11_72 rfl (lo_1 hL) rfl (lhP (ly_8 hL)) dX11_count_65 ?_
    refine E_gI (v := sI G (sR G 1 8) 10) fG_X11_114 rfl (lhO hL (ly_8 hL)) rfl dX11_count_68 ?_
    exact E_iret rfl dX11_count_71 ⟨_, rfl, hB⟩
  obtain ⟨hA, hB⟩ := hB
  by_cases c2 : x1 = 2
  · have hB := hA c2
    refine E_tableIn (off := 71) (tgt := 72) dX11_count_1 (by rw [c2]; decide) (by rw [c2]; decide) (by rw [c2]; decide) (by decide) ?_
    refine E_aload_n 0 dX11_count_72 rfl rfl rfl ?_
    refine E_cV (ci := 10) (as := []) (st := []) cm_X11_seen cV_X11_171 ⟨_, _, rfl⟩ (by decide) (lo_1 hL) rfl rfl (by decide) (Nat.le_of_ble_eq_true rfl) (Nat.le_of_ble_eq_true rfl) dX11_count_73 hB (fun r G1 hr => ?_)
    obtain ⟨r1, rfl, hE1, hB⟩ := hr
    have hL1 : Lay G1.2.2 := by rw [hE1]; exact hL
    show Ev K mX11_count 11 76 [(0, .ref 1), (1, .int x1)] [.int r1] G1 _
    refine E_callS (as := [.int r1]) (st := []) cm_J6_bitCount_0f7a4 cS_X11_207 rfl rfl (by decide) (Nat.le_of_ble_eq_true rfl) (Nat.le_of_ble_eq_true rfl) dX11_count_76 hB (fun r G2 hr => ?_)
    obtain ⟨r2, rfl, hE2, hB⟩ := hr
    have hL2 : Lay G2.2.2 := by rw [hE2]; exact hL1
    show Ev K mX11_count 11 79 [(0, .ref 1), (1, .int x1)] [.int r2] G2 _
    exact E_iret rfl dX11_count_79 ⟨_, rfl, hB⟩
  obtain ⟨hA, hB⟩ := hB
  by_cases c3 : x1 = 3
  · have hB := hA c3
    refine E_tableIn (off := 79) (tgt := 80) dX11_count_1 (by rw [c3]; decide) (by rw [c3]; decide) (by rw [c3]; decide) (by decide) ?_
    refine E_aload_n 0 dX11_count_80 rfl rfl rfl ?_
    refine E_gR (j := sR G 1 10) fG_X11_82 rfl (lo_1 hL) rfl (ltP (ly_10 hL)) dX11_count_81 ?_
    refine E_gI (v := sI G (sR G 1 10) 2) fG_X11_326 rfl (ltO hL (ly_10 hL)) rfl dX11_count_84 ?_
    exact E_iret rfl dX11_count_87 ⟨_, rfl, hB⟩
  obtain ⟨hA, hB⟩ := hB
  by_cases c4 : x1 = 4
  · have hB := hA c4
    refine E_tableIn (off := 87) (tgt := 88) dX11_count_1 (by rw [c4]; decide) (by rw [c4]; decide) (by rw [c4]; decide) (by decide) ?_
    refine E_aload_n 0 dX11_count_88 rfl rfl rfl ?_
    refine E_cV (ci := 10) (as := []) (st := []) cm_X11_searched cV_X11_139 ⟨_, _, rfl⟩ (by decide) (lo_1 hL) rfl rfl (by decide) (Nat.le_of_ble_eq_true rfl) (Nat.le_of_ble_eq_true rfl) dX11_count_89 hB (fun r G3 hr => ?_)
    obtain ⟨r3, rfl, hL3, hB⟩ := hr
    show Ev K mX11_count 11 92 [(0, .ref 1), (1, .int x1)] [.int r3] G3 _
    refine E_if_eq (tgt := 105) dX11_count_92 (by decide) (fun c => ?_) (fun c => ?_)
    · have hB := hB.1 c
      refine E_iconst (v := 0) dX11_count_105 (by decide) ?_
      exact E_iret rfl dX11_count_106 ⟨_, rfl, hB⟩
    · have hB := hB.2 c
      refine E_aload_n 0 dX11_count_95 rfl rfl rfl ?_
      refine E_gR (j := 18) fG_X11_51 rfl (lo_1 hL3) (lr_1_5 hL3) (by decide) dX11_count_96 ?_
      refine E_gI (v := sI G3 18 17) fG_X11_329 rfl (lo_18 hL3) rfl dX11_count_99 ?_
      refine E_goto (tgt := 106) dX11_count_102 (by decide) ?_
      exact E_iret rfl dX11_count_106 ⟨_, rfl, hB⟩
  obtain ⟨hA, hB⟩ := hB
  by_cases c5 : x1 = 5
  · have hB := hA c5
    refine E_tableIn (off := 106) (tgt := 107) dX11_count_1 (by rw [c5]; decide) (by rw [c5]; decide) (by rw [c5]; decide) (by decide) ?_
    refine E_aload_n 0 dX11_count_107 rfl rfl rfl ?_
    refine E_cV (ci := 10) (as := []) (st := []) cm_X11_searched cV_X11_139 ⟨_, _, rfl⟩ (by decide) (lo_1 hL) rfl rfl (by decide) (Nat.le_of_ble_eq_true rfl) (Nat.le_of_ble_eq_true rfl) dX11_count_108 hB (fun r G4 hr => ?_)
    obtain ⟨r4, rfl, hL4, hB⟩ := hr
    show Ev K mX11_count 11 111 [(0, .ref 1), (1, .int x1)] [.int r4] G4 _
    refine E_if_eq (tgt := 124) dX11_count_111 (by decide) (fun c => ?_) (fun c => ?_)
    · have hB := hB.1 c
      refine E_iconst (v := 0) dX11_count_124 (by decide) ?_
      exact E_iret rfl dX11_count_125 ⟨_, rfl, hB⟩
    · have hB := hB.2 c
      refine E_aload_n 0 dX11_count_114 rfl rfl rfl ?_
      refine E_gR (j := 28) fG_X11_58 rfl (lo_1 hL4) (lr_1_6 hL4) (by decide) dX11_count_115 ?_
      refine E_gI (v := sI G4 28 12) fG_X11_332 rfl (lo_28 hL4) rfl dX11_count_118 ?_
      refine E_goto (tgt := 125) dX11_count_121 (by decide) ?_
      exact E_iret rfl dX11_count_125 ⟨_, rfl, hB⟩
  obtain ⟨hA, hB⟩ := hB
  by_cases c6 : x1 = 6
  · have hB := hA c6
    refine E_tableIn (off := 125) (tgt := 126) dX11_count_1 (by rw [c6]; decide) (by rw [c6]; decide) (by rw [c6]; decide) (by decide) ?_
    refine E_aload_n 0 dX11_count_126 rfl rfl rfl ?_
    refine E_gR (j := 2) fG_X11_10 rfl (lo_1 hL) (lr_1_0 hL) (by decide) dX11_count_127 ?_
    refine E_gI (v := sI G 2 2) fG_X11_101 rfl (lo_2 hL) rfl dX11_count_130 ?_
    exact E_iret rfl dX11_count_133 ⟨_, rfl, hB⟩
  obtain ⟨hA, hB⟩ := hB
  by_cases c7 : x1 = 7
  · have hB := hA c7
    refine E_tableIn (off := 133) (tgt := 134) dX11_count_1 (by rw [c7]; decide) (by rw [c7]; decide) (by rw [c7]; decide) (by decide) ?_
    refine E_aload_n 0 dX11_count_134 rfl rfl rfl ?_
    refine E_cV (ci := 10) (as := []) (st := []) cm_X11_freshenOffers cV_X11_311 ⟨_, _, rfl⟩ (by decide) (lo_1 hL) rfl rfl (by decide) (Nat.le_of_ble_eq_true rfl) (Nat.le_of_ble_eq_true rfl) dX11_count_135 hB (fun r G5 hr => ?_)
    obtain ⟨rfl, hE5, hB⟩ := hr
    have hL5 : Lay G5.2.2 := by rw [hE5]; exact hL
    show Ev K mX11_count 11 138 [(0, .ref 1), (1, .int x1)] [] G5 _
    refine E_aload_n 0 dX11_count_138 rfl rfl rfl ?_
    refine E_gR (j := 14) fG_X11_42 rfl (lo_1 hL5) (lr_1_4 hL5) (by decide) dX11_count_139 ?_
    refine E_gI (v := sI G5 14 3) fG_X11_335 rfl (lo_14 hL5) rfl dX11_count_142 ?_
    exact E_iret rfl dX11_count_145 ⟨_, rfl, hB⟩
  obtain ⟨hA, hB⟩ := hB
  by_cases c8 : x1 = 8
  · have hB := hA c8
    refine E_tableIn (off := 145) (tgt := 146) dX11_count_1 (by rw [c8]; decide) (by rw [c8]; decide) (by rw [c8]; decide) (by decide) ?_
    refine E_aload_n 0 dX11_count_146 rfl rfl rfl ?_
    refine E_gR (j := 14) fG_X11_42 rfl (lo_1 hL) (lr_1_4 hL) (by decide) dX11_count_147 ?_
    refine E_gI (v := sI G 14 4) fG_X11_338 rfl (lo_14 hL) rfl dX11_count_150 ?_
    exact E_iret rfl dX11_count_153 ⟨_, rfl, hB⟩
  obtain ⟨hA, hB⟩ := hB
  by_cases c9 : x1 = 9
  · have hB := hA c9
    refine E_tableIn (off := 153) (tgt := 154) dX11_count_1 (by rw [c9]; decide) (by rw [c9]; decide) (by rw [c9]; decide) (by decide) ?_
    refine E_aload_n 0 dX11_count_154 rfl rfl rfl ?_
    refine E_cV (ci := 10) (as := []) (st := []) cm_X11_freshenTies cV_X11_212 ⟨_, _, rfl⟩ (by decide) (lo_1 hL) rfl rfl (by decide) (Nat.le_of_ble_eq_true rfl) (Nat.le_of_ble_eq_true rfl) dX11_count_155 hB (fun r G6 hr => ?_)
    obtain ⟨rfl, hE6, hB⟩ := hr
    have hL6 : Lay G6.2.2 := by rw [hE6]; exact hL
    show Ev K mX11_count 11 158 [(0, .ref 1), (1, .int x1)] [] G6 _
    refine E_aload_n 0 dX11_count_158 rfl rfl rfl ?_
    refine E_gR (j := 11) fG_X11_35 rfl (lo_1 hL6) (lr_1_3 hL6) (by decide) dX11_count_159 ?_
    refine E_gI (v := sI G6 11 2) fG_X11_341 rfl (lo_11 hL6) rfl dX11_count_162 ?_
    exact E_iret rfl dX11_count_165 ⟨_, rfl, hB⟩
  have hB := hB c0 c1 c2 c3 c4 c5 c6 c7 c8 c9
  refine E_tableOut (tgt := 166) dX11_count_1 (tb_outZ (by decide) (by decide) (fun z z1 z2 => ?_)) (by decide) ?_
  · have z3 : z = 0 ∨ z = 1 ∨ z = 2 ∨ z = 3 ∨ z = 4 ∨ z = 5 ∨ z = 6 ∨ z = 7 ∨ z = 8 ∨ z = 9 := by omega
    rcases z3 with rfl | rfl | rfl | rfl | rfl | rfl | rfl | rfl | rfl | rfl
    · exact fun q => c0 (q.trans (by decide))
    · exact fun q => c1 (q.trans (by decide))
    · exact fun q => c2 (q.trans (by decide))
    · exact fun q => c3 (q.trans (by decide))
    · exact fun q => c4 (q.trans (by decide))
    · exact fun q => c5 (q.trans (by decide))
    · exact fun q => c6 (q.trans (by decide))
    · exact fun q => c7 (q.trans (by decide))
    · exact fun q => c8 (q.trans (by decide))
    · exact fun q => c9 (q.trans (by decide))
  refine E_iconst (v := (-1)) dX11_count_166 (by decide) ?_
  exact E_iret rfl dX11_count_167 ⟨_, rfl, hB⟩

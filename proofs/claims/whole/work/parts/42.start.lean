/-! the beginning: both objects are made, and a row of one long; the store then is sE -/
def s0 : St := (fun _ _ => 0, fun _ _ => 0, fun _ _ => 0, fun _ => 0, fun _ => 0, 1, 0)
abbrev mL_law : MT := (yL_law, cL_law, 7, some .boolean)
def s1 : St := uN s0 10 19
def s2 : St := gX7_init (uN s1 7 6) 2
def s3 : St := uR s2 1 0 2
def s4 : St := gX5_init (uN s3 5 2) 4 2
def s5 : St := uR s4 1 1 4
def s6 : St := gX0_init (uN s5 0 6) 5
def s7 : St := uR s6 1 2 5
def s8 : St := gX9_init (uN s7 9 4) 11
def s9 : St := uR s8 1 3 11
def s10 : St := gX2_init (uN s9 2 5) 14
def s11 : St := uR s10 1 4 14
def s12 : St := gX6_init (uN s11 6 18) 18 11 5
def s13 : St := uR s12 1 5 18
def s14 : St := gX4_init (uN s13 4 13) 28
def s15 : St := uR s14 1 6 28
def s16 : St := gX3_init (uN s15 3 2) 38
def s17 : St := uR s16 1 7 38
def s18 : St := gX1_init (uN s17 1 11) 39
def s19 : St := uR s18 1 8 39
def s20 : St := gX1_init (uN s19 1 11) 49
def s21 : St := uR s20 1 9 49
def s22 : St := gX8_init (uN s21 8 3) 59
def s23 : St := uR s22 1 10 59
def s24 : St := gX8_init (uN s23 8 3) 62
def s25 : St := uR s24 1 11 62
def s26 : St := uR (uN s25 100 3) 1 14 65
def s27 : St := uI s26 1 13 4
set_option maxRecDepth 40000 in
set_option maxHeartbeats 8000000 in
theorem nX11_init {K : KT} {Q : St → Prop} (hB : Q s27) : EvVa K mX11_init 2 0 [(0, .ref 1)] [] s1 Q := by
  refine E_aload_n 0 dX11_init_0 rfl rfl rfl ?_
  refine E_objInit (by decide) tm_27 tm_28 tm_29 (Nat.le_of_ble_eq_true rfl) dX11_init_1 ?_
  refine E_aload_n 0 dX11_init_4 rfl rfl rfl ?_
  refine E_new (N := 6) cl_7 ⟨RX7, TX7, rfl, tm_30, tm_31, tm_2⟩ (by decide) (by decide +kernel) dX11_init_5 ?_
  show Ev K mX11_init 2 8 [(0, .ref 1)] [.ref 2, .ref 1] (uN s1 7 6) _
  refine E_dup dX11_init_8 rfl ?_
  refine E_callIN (d2 := 1) (post1 := fun r G1 => r = none ∧ G1 = s2) (as := []) (st := [.ref 2, .ref 1]) cm_X7_init rfl cN_X11_9 rfl rfl (by decide) (Nat.le_of_ble_eq_true rfl) (Nat.le_of_ble_eq_true rfl) dX11_init_9 (nX7_init (Q := fun G1 => G1 = s2) (show Ob (uN s1 7 6) 2 7 by unfold Ob; decide +kernel) rfl) (fun r G1 hr => ?_)
  obtain ⟨rfl, rfl⟩ := hr
  show Ev K mX11_init 2 12 [(0, .ref 1)] [.ref 2, .ref 1] s2 _
  refine E_fR fF_X11_10 rfl rfl (show Ob s2 1 10 by unfold Ob; decide +kernel) (by decide) dX11_init_12 ?_
  show Ev K mX11_init 2 15 [(0, .ref 1)] [] s3 _
  refine E_aload_n 0 dX11_init_15 rfl rfl rfl ?_
  refine E_new (N := 2) cl_5 ⟨RX5, TX5, rfl, tm_60, tm_61, tm_3⟩ (by decide) (by decide +kernel) dX11_init_16 ?_
  show Ev K mX11_init 2 19 [(0, .ref 1)] [.ref 4, .ref 1] (uN s3 5 2) _
  refine E_dup dX11_init_19 rfl ?_
  refine E_aload_n 0 dX11_init_20 rfl rfl rfl ?_
  refine E_gR (j := 2) fG_X11_10 rfl (show Ob (uN s3 5 2) 1 10 by unfold Ob; decide +kernel) (by decide +kernel) (by decide) dX11_init_21 ?_
  refine E_callI (d2 := 1) (post1 := fun r G1 => r = none ∧ G1 = s4) (as := [.ref 2]) (st := [.ref 4, .ref 1]) cm_X5_init rfl cI_X11_18 rfl rfl (by decide) (Nat.le_of_ble_eq_true rfl) (Nat.le_of_ble_eq_true rfl) dX11_init_24 (nX5_init (Q := fun G1 => G1 = s4) (by decide) (show Ob (uN s3 5 2) 4 5 by unfold Ob; decide +kernel) rfl) (fun r G1 hr => ?_)
  obtain ⟨rfl, rfl⟩ := hr
  show Ev K mX11_init 2 27 [(0, .ref 1)] [.ref 4, .ref 1] s4 _
  refine E_fR fF_X11_21 rfl rfl (show Ob s4 1 10 by unfold Ob; decide +kernel) (by decide) dX11_init_27 ?_
  show Ev K mX11_init 2 30 [(0, .ref 1)] [] s5 _
  refine E_aload_n 0 dX11_init_30 rfl rfl rfl ?_
  refine E_new (N := 6) cl_0 ⟨RX0, TX0, rfl, tm_74, tm_75, tm_4⟩ (by decide) (by decide +kernel) dX11_init_31 ?_
  show Ev K mX11_init 2 34 [(0, .ref 1)] [.ref 5, .ref 1] (uN s5 0 6) _
  refine E_dup dX11_init_34 rfl ?_
  refine E_callIN (d2 := 1) (post1 := fun r G1 => r = none ∧ G1 = s6) (as := []) (st := [.ref 5, .ref 1]) cm_X0_init rfl cN_X11_27 rfl rfl (by decide) (Nat.le_of_ble_eq_true rfl) (Nat.le_of_ble_eq_true rfl) dX11_init_35 (nX0_init (Q := fun G1 => G1 = s6) (show Ob (uN s5 0 6) 5 0 by unfold Ob; decide +kernel) rfl) (fun r G1 hr => ?_)
  obtain ⟨rfl, rfl⟩ := hr
  show Ev K mX11_init 2 38 [(0, .ref 1)] [.ref 5, .ref 1] s6 _
  refine E_fR fF_X11_28 rfl rfl (show Ob s6 1 10 by unfold Ob; decide +kernel) (by decide) dX11_init_38 ?_
  show Ev K mX11_init 2 41 [(0, .ref 1)] [] s7 _
  refine E_aload_n 0 dX11_init_41 rfl rfl rfl ?_
  refine E_new (N := 4) cl_9 ⟨RX9, TX9, rfl, tm_105, tm_106, tm_5⟩ (by decide) (by decide +kernel) dX11_init_42 ?_
  show Ev K mX11_init 2 45 [(0, .ref 1)] [.ref 11, .ref 1] (uN s7 9 4) _
  refine E_dup dX11_init_45 rfl ?_
  refine E_callIN (d2 := 1) (post1 := fun r G1 => r = none ∧ G1 = s8) (as := []) (st := [.ref 11, .ref 1]) cm_X9_init rfl cN_X11_34 rfl rfl (by decide) (Nat.le_of_ble_eq_true rfl) (Nat.le_of_ble_eq_true rfl) dX11_init_46 (nX9_init (Q := fun G1 => G1 = s8) (show Ob (uN s7 9 4) 11 9 by unfold Ob; decide +kernel) rfl) (fun r G1 hr => ?_)
  obtain ⟨rfl, rfl⟩ := hr
  show Ev K mX11_init 2 49 [(0, .ref 1)] [.ref 11, .ref 1] s8 _
  refine E_fR fF_X11_35 rfl rfl (show Ob s8 1 10 by unfold Ob; decide +kernel) (by decide) dX11_init_49 ?_
  show Ev K mX11_init 2 52 [(0, .ref 1)] [] s9 _
  refine E_aload_n 0 dX11_init_52 rfl rfl rfl ?_
  refine E_new (N := 5) cl_2 ⟨RX2, TX2, rfl, tm_127, tm_128, tm_6⟩ (by decide) (by decide +kernel) dX11_init_53 ?_
  show Ev K mX11_init 2 56 [(0, .ref 1)] [.ref 14, .ref 1] (uN s9 2 5) _
  refine E_dup dX11_init_56 rfl ?_
  refine E_callIN (d2 := 1) (post1 := fun r G1 => r = none ∧ G1 = s10) (as := []) (st := [.ref 14, .ref 1]) cm_X2_init rfl cN_X11_41 rfl rfl (by decide) (Nat.le_of_ble_eq_true rfl) (Nat.le_of_ble_eq_true rfl) dX11_init_57 (nX2_init (Q := fun G1 => G1 = s10) (show Ob (uN s9 2 5) 14 2 by unfold Ob; decide +kernel) rfl) (fun r G1 hr => ?_)
  obtain ⟨rfl, rfl⟩ := hr
  show Ev K mX11_init 2 60 [(0, .ref 1)] [.ref 14, .ref 1] s10 _
  refine E_fR fF_X11_42 rfl rfl (show Ob s10 1 10 by unfold Ob; decide +kernel) (by decide) dX11_init_60 ?_
  show Ev K mX11_init 2 63 [(0, .ref 1)] [] s11 _
  refine E_aload_n 0 dX11_init_63 rfl rfl rfl ?_
  refine E_new (N := 18) cl_6 ⟨RX6, TX6, rfl, tm_153, tm_154, tm_7⟩ (by decide) (by decide +kernel) dX11_init_64 ?_
  show Ev K mX11_init 2 67 [(0, .ref 1)] [.ref 18, .ref 1] (uN s11 6 18) _
  refine E_dup dX11_init_67 rfl ?_
  refine E_aload_n 0 dX11_init_68 rfl rfl rfl ?_
  refine E_gR (j := 11) fG_X11_35 rfl (show Ob (uN s11 6 18) 1 10 by unfold Ob; decide +kernel) (by decide +kernel) (by decide) dX11_init_69 ?_
  refine E_aload_n 0 dX11_init_72 rfl rfl rfl ?_
  refine E_gR (j := 5) fG_X11_28 rfl (show Ob (uN s11 6 18) 1 10 by unfold Ob; decide +kernel) (by decide +kernel) (by decide) dX11_init_73 ?_
  refine E_callI (d2 := 1) (post1 := fun r G1 => r = none ∧ G1 = s12) (as := [.ref 11, .ref 5]) (st := [.ref 18, .ref 1]) cm_X6_init rfl cI_X11_48 rfl rfl (by decide) (Nat.le_of_ble_eq_true rfl) (Nat.le_of_ble_eq_true rfl) dX11_init_76 (nX6_init (Q := fun G1 => G1 = s12) (by decide) (by decide) (show Ob (uN s11 6 18) 18 6 by unfold Ob; decide +kernel) rfl) (fun r G1 hr => ?_)
  obtain ⟨rfl, rfl⟩ := hr
  show Ev K mX11_init 2 79 [(0, .ref 1)] [.ref 18, .ref 1] s12 _
  refine E_fR fF_X11_51 rfl rfl (show Ob s12 1 10 by unfold Ob; decide +kernel) (by decide) dX11_init_79 ?_
  show Ev K mX11_init 2 82 [(0, .ref 1)] [] s13 _
  refine E_aload_n 0 dX11_init_82 rfl rfl rfl ?_
  refine E_new (N := 13) cl_4 ⟨RX4, TX4, rfl, tm_217, tm_218, tm_8⟩ (by decide) (by decide +kernel) dX11_init_83 ?_
  show Ev K mX11_init 2 86 [(0, .ref 1)] [.ref 28, .ref 1] (uN s13 4 13) _
  refine E_dup dX11_init_86 rfl ?_
  refine E_callIN (d2 := 1) (post1 := fun r G1 => r = none ∧ G1 = s14) (as := []) (st := [.ref 28, .ref 1]) cm_X4_init rfl cN_X11_57 rfl rfl (by decide) (Nat.le_of_ble_eq_true rfl) (Nat.le_of_ble_eq_true rfl) dX11_init_87 (nX4_init (Q := fun G1 => G1 = s14) (show Ob (uN s13 4 13) 28 4 by unfold Ob; decide +kernel) rfl) (fun r G1 hr => ?_)
  obtain ⟨rfl, rfl⟩ := hr
  show Ev K mX11_init 2 90 [(0, .ref 1)] [.ref 28, .ref 1] s14 _
  refine E_fR fF_X11_58 rfl rfl (show Ob s14 1 10 by unfold Ob; decide +kernel) (by decide) dX11_init_90 ?_
  show Ev K mX11_init 2 93 [(0, .ref 1)] [] s15 _
  refine E_aload_n 0 dX11_init_93 rfl rfl rfl ?_
  refine E_new (N := 2) cl_3 ⟨RX3, TX3, rfl, tm_264, tm_265, tm_9⟩ (by decide) (by decide +kernel) dX11_init_94 ?_
  show Ev K mX11_init 2 97 [(0, .ref 1)] [.ref 38, .ref 1] (uN s15 3 2) _
  refine E_dup dX11_init_97 rfl ?_
  refine E_callIN (d2 := 1) (post1 := fun r G1 => r = none ∧ G1 = s16) (as := []) (st := [.ref 38, .ref 1]) cm_X3_init rfl cN_X11_64 rfl rfl (by decide) (Nat.le_of_ble_eq_true rfl) (Nat.le_of_ble_eq_true rfl) dX11_init_98 (nX3_init (Q := fun G1 => G1 = s16) (show Ob (uN s15 3 2) 38 3 by unfold Ob; decide +kernel) rfl) (fun r G1 hr => ?_)
  obtain ⟨rfl, rfl⟩ := hr
  show Ev K mX11_init 2 101 [(0, .ref 1)] [.ref 38, .ref 1] s16 _
  refine E_fR fF_X11_65 rfl rfl (show Ob s16 1 10 by unfold Ob; decide +kernel) (by decide) dX11_init_101 ?_
  show Ev K mX11_init 2 104 [(0, .ref 1)] [] s17 _
  refine E_aload_n 0 dX11_init_104 rfl rfl rfl ?_
  refine E_new (N := 11) cl_1 ⟨RX1, TX1, rfl, tm_279, tm_280, tm_10⟩ (by decide) (by decide +kernel) dX11_init_105 ?_
  show Ev K mX11_init 2 108 [(0, .ref 1)] [.ref 39, .ref 1] (uN s17 1 11) _
  refine E_dup dX11_init_108 rfl ?_
  refine E_callIN (d2 := 1) (post1 := fun r G1 => r = none ∧ G1 = s18) (as := []) (st := [.ref 39, .ref 1]) cm_X1_init rfl cN_X11_71 rfl rfl (by decide) (Nat.le_of_ble_eq_true rfl) (Nat.le_of_ble_eq_true rfl) dX11_init_109 (nX1_init (Q := fun G1 => G1 = s18) (show Ob (uN s17 1 11) 39 1 by unfold Ob; decide +kernel) rfl) (fun r G1 hr => ?_)
  obtain ⟨rfl, rfl⟩ := hr
  show Ev K mX11_init 2 112 [(0, .ref 1)] [.ref 39, .ref 1] s18 _
  refine E_pR fP_X11_72 rfl (show Ob s18 1 10 by unfold Ob; decide +kernel) (by decide) dX11_init_112 ?_
  show Ev K mX11_init 2 115 [(0, .ref 1)] [] s19 _
  refine E_aload_n 0 dX11_init_115 rfl rfl rfl ?_
  refine E_new (N := 11) cl_1 ⟨RX1, TX1, rfl, tm_279, tm_280, tm_10⟩ (by decide) (by decide +kernel) dX11_init_116 ?_
  show Ev K mX11_init 2 119 [(0, .ref 1)] [.ref 49, .ref 1] (uN s19 1 11) _
  refine E_dup dX11_init_119 rfl ?_
  refine E_callIN (d2 := 1) (post1 := fun r G1 => r = none ∧ G1 = s20) (as := []) (st := [.ref 49, .ref 1]) cm_X1_init rfl cN_X11_71 rfl rfl (by decide) (Nat.le_of_ble_eq_true rfl) (Nat.le_of_ble_eq_true rfl) dX11_init_120 (nX1_init (Q := fun G1 => G1 = s20) (show Ob (uN s19 1 11) 49 1 by unfold Ob; decide +kernel) rfl) (fun r G1 hr => ?_)
  obtain ⟨rfl, rfl⟩ := hr
  show Ev K mX11_init 2 123 [(0, .ref 1)] [.ref 49, .ref 1] s20 _
  refine E_pR fP_X11_76 rfl (show Ob s20 1 10 by unfold Ob; decide +kernel) (by decide) dX11_init_123 ?_
  show Ev K mX11_init 2 126 [(0, .ref 1)] [] s21 _
  refine E_aload_n 0 dX11_init_126 rfl rfl rfl ?_
  refine E_new (N := 3) cl_8 ⟨RX8, TX8, rfl, tm_341, tm_342, tm_11⟩ (by decide) (by decide +kernel) dX11_init_127 ?_
  show Ev K mX11_init 2 130 [(0, .ref 1)] [.ref 59, .ref 1] (uN s21 8 3) _
  refine E_dup dX11_init_130 rfl ?_
  refine E_callIN (d2 := 1) (post1 := fun r G1 => r = none ∧ G1 = s22) (as := []) (st := [.ref 59, .ref 1]) cm_X8_init rfl cN_X11_81 rfl rfl (by decide) (Nat.le_of_ble_eq_true rfl) (Nat.le_of_ble_eq_true rfl) dX11_init_131 (nX8_init (Q := fun G1 => G1 = s22) (show Ob (uN s21 8 3) 59 8 by unfold Ob; decide +kernel) rfl) (fun r G1 hr => ?_)
  obtain ⟨rfl, rfl⟩ := hr
  show Ev K mX11_init 2 134 [(0, .ref 1)] [.ref 59, .ref 1] s22 _
  refine E_pR fP_X11_82 rfl (show Ob s22 1 10 by unfold Ob; decide +kernel) (by decide) dX11_init_134 ?_
  show Ev K mX11_init 2 137 [(0, .ref 1)] [] s23 _
  refine E_aload_n 0 dX11_init_137 rfl rfl rfl ?_
  refine E_new (N := 3) cl_8 ⟨RX8, TX8, rfl, tm_341, tm_342, tm_11⟩ (by decide) (by decide +kernel) dX11_init_138 ?_
  show Ev K mX11_init 2 141 [(0, .ref 1)] [.ref 62, .ref 1] (uN s23 8 3) _
  refine E_dup dX11_init_141 rfl ?_
  refine E_callIN (d2 := 1) (post1 := fun r G1 => r = none ∧ G1 = s24) (as := []) (st := [.ref 62, .ref 1]) cm_X8_init rfl cN_X11_81 rfl rfl (by decide) (Nat.le_of_ble_eq_true rfl) (Nat.le_of_ble_eq_true rfl) dX11_init_142 (nX8_init (Q := fun G1 => G1 = s24) (show Ob (uN s23 8 3) 62 8 by unfold Ob; decide +kernel) rfl) (fun r G1 hr => ?_)
  obtain ⟨rfl, rfl⟩ := hr
  show Ev K mX11_init 2 145 [(0, .ref 1)] [.ref 62, .ref 1] s24 _
  refine E_pR fP_X11_86 rfl (show Ob s24 1 10 by unfold Ob; decide +kernel) (by decide) dX11_init_145 ?_
  show Ev K mX11_init 2 148 [(0, .ref 1)] [] s25 _
  refine E_aload_n 0 dX11_init_148 rfl rfl rfl ?_
  refine E_iconst (v := 3) dX11_init_149 (by decide) ?_
  refine E_newa (atype := .int) (ty := .int) (t := 0) (N := 3) tm_103 rfl (Or.inl ⟨rfl, rfl⟩) (by decide) (by decide) (by decide) dX11_init_150 ?_
  show Ev K mX11_init 2 152 [(0, .ref 1)] [.ref 65, .ref 1] (uN s25 100 3) _
  refine E_fR fF_X11_89 rfl rfl (show Ob (uN s25 100 3) 1 10 by unfold Ob; decide +kernel) (by decide) dX11_init_152 ?_
  show Ev K mX11_init 2 155 [(0, .ref 1)] [] s26 _
  refine E_aload_n 0 dX11_init_155 rfl rfl rfl ?_
  refine E_iconst (v := 4) dX11_init_156 (by decide) ?_
  refine E_pI fP_X11_93 rfl (show Ob s26 1 10 by unfold Ob; decide +kernel) dX11_init_157 ?_
  show Ev K mX11_init 2 160 [(0, .ref 1)] [] s27 _
  exact E_vret rfl dX11_init_160 ⟨rfl, hB⟩
def s28 : St := uN s27 11 57
def s29 : St := gX12_init s28 66
def sE : St := uN s29 101 1
set_option maxRecDepth 40000 in
set_option maxHeartbeats 8000000 in
theorem kL_law_0 {K : KT} {Q : Int32 → St → Prop} (hB : EvIa K mL_law 12 23 [(0, .float 1), (1, .ref 1), (2, .ref 66), (3, .ref 103), (4, .int 0)] [] sE Q) : EvIa K mL_law 12 0 [(0, .float 1)] [] s0 Q := by
  refine E_new (N := 19) cl_10 ⟨RX11, TX11, rfl, tm_22, tm_23, tm_1⟩ (by decide) (by decide +kernel) dL_law_0 ?_
  show Ev K mL_law 12 3 [(0, .float 1)] [.ref 1] s1 _
  refine E_dup dL_law_3 rfl ?_
  refine E_callI (d2 := 2) (post1 := fun r G1 => r = none ∧ G1 = s27) (as := []) (st := [.ref 1]) cm_X11_init rfl cI_L_15 rfl rfl (by decide) (Nat.le_of_ble_eq_true rfl) (Nat.le_of_ble_eq_true rfl) dL_law_4 (nX11_init (Q := fun G1 => G1 = s27) rfl) (fun r G1 hr => ?_)
  obtain ⟨rfl, rfl⟩ := hr
  show Ev K mL_law 12 7 [(0, .float 1)] [.ref 1] s27 _
  refine E_astore_n (lv' := [(0, .float 1), (1, .ref 1)]) dL_law_7 rfl (by decide) rfl rfl ?_
  refine E_new (N := 57) cl_11 ⟨RX12, TX12, rfl, tm_1297, tm_1295, tm_12⟩ (by decide) (by decide +kernel) dL_law_8 ?_
  show Ev K mL_law 12 11 [(0, .float 1), (1, .ref 1)] [.ref 66] s28 _
  refine E_dup dL_law_11 rfl ?_
  refine E_callI (d2 := 1) (post1 := fun r G1 => r = none ∧ G1 = s29) (as := []) (st := [.ref 66]) cm_X12_init rfl cI_L_18 rfl rfl (by decide) (Nat.le_of_ble_eq_true rfl) (Nat.le_of_ble_eq_true rfl) dL_law_12 (nX12_init (Q := fun G1 => G1 = s29) (show Ob s28 66 11 by unfold Ob; decide +kernel) rfl) (fun r G1 hr => ?_)
  obtain ⟨rfl, rfl⟩ := hr
  show Ev K mL_law 12 15 [(0, .float 1), (1, .ref 1)] [.ref 66] s29 _
  refine E_astore_n (lv' := [(0, .float 1), (1, .ref 1), (2, .ref 66)]) dL_law_15 rfl (by decide) rfl rfl ?_
  refine E_iconst (v := 1) dL_law_16 (by decide) ?_
  refine E_newa (atype := .long) (ty := .long) (t := 1) (N := 1) tm_104 rfl (Or.inr (Or.inl ⟨rfl, rfl⟩)) (by decide) (by decide) (by decide) dL_law_17 ?_
  show Ev K mL_law 12 19 [(0, .float 1), (1, .ref 1), (2, .ref 66)] [.ref 103] sE _
  refine E_astore_n (lv' := [(0, .float 1), (1, .ref 1), (2, .ref 66), (3, .ref 103)]) dL_law_19 rfl (by decide) rfl rfl ?_
  refine E_iconst (v := 0) dL_law_20 (by decide) ?_
  refine E_istore (lv' := [(0, .float 1), (1, .ref 1), (2, .ref 66), (3, .ref 103), (4, .int 0)]) dL_law_21 (by decide) rfl ?_
  exact hB
theorem sE_nx : nx sE = 104 := by decide +kernel
theorem sE_su : su sE < 800000 := by decide +kernel
set_option maxRecDepth 40000 in
theorem sE_K : ∀ q ∈ ltK, sE.2.2.2.2.1 q.1 = q.2 := by decide +kernel
set_option maxRecDepth 40000 in
theorem sE_N : ∀ q ∈ ltN, sE.2.2.2.1 q.1 = q.2 := by decide +kernel
set_option maxRecDepth 40000 in
theorem sE_R : ∀ q ∈ ltR, sE.2.2.1 q.1 q.2.1 = q.2.2 := by decide +kernel
theorem sE_lay : Lay sE.2.2 := by
  refine ⟨sE_K, sE_N, sE_R, (by decide +kernel), Or.inl ⟨by decide +kernel, by decide +kernel⟩, Or.inl ⟨by decide +kernel, by decide +kernel⟩, ?_, ?_⟩
  · have h : ∀ q ∈ ltG, sE.2.2.2.2.1 (sE.2.2.1 q.1 q.2.1) = 100 + q.2.2.1 ∧ sE.2.2.1 q.1 q.2.1 = q.2.2.2 ∧ sE.2.2.1 q.1 q.2.1 < sE.2.2.2.2.2.1 := by decide +kernel
    exact fun q hq => ⟨(h q hq).1, Or.inl (h q hq).2.1, (h q hq).2.2⟩
  · have h : ∀ p ∈ ltG, ∀ q ∈ ltG, sE.2.2.1 p.1 p.2.1 = sE.2.2.1 q.1 q.2.1 → p = q := by decide +kernel
    exact h

theorem ob_nx {G : St} {i c : Nat} (h : Ob G i c) : 0 < nx G := Nat.lt_of_le_of_lt (Nat.zero_le _) h.2.2
theorem ob_uI {G : St} {i c a k : Nat} {v : Int32} (h : Ob G i c) : Ob (uI G a k v) i c := h
theorem ob_uL {G : St} {i c a k : Nat} {v : Int64} (h : Ob G i c) : Ob (uL G a k v) i c := h
theorem ob_new {G : St} {c n : Nat} (h : 0 < nx G) : Ob (uN G c n) (nx G) c := ⟨up_at _ _ _, h, Nat.lt_succ_self _⟩
theorem ar_new {G : St} {t n : Nat} (h : 0 < nx G) : Ar (uN G (100 + t) n) (nx G) t n := ⟨up_at _ _ _, h, Nat.lt_succ_self _, up_at _ _ _⟩
def gX0_init (G : St) (o : Nat) : St := (uR (uN (uR (uN (uR (uN (uR (uN (uR (uN G 100 120) o 0 (nx G)) 101 120) o 1 (nx G + 1)) 100 4) o 3 (nx G + 2)) 100 4) o 4 (nx G + 3)) 100 30) o 5 (nx G + 4))
theorem ogX0_init {G : St} {i c o : Nat} (h : Ob G i c) : Ob (gX0_init G o) i c := (ob_uR (ob_uN (ob_uR (ob_uN (ob_uR (ob_uN (ob_uR (ob_uN (ob_uR (ob_uN h))))))))))
set_option maxRecDepth 20000 in
set_option maxHeartbeats 4000000 in
theorem nX0_init {K : KT} {G : St} {Q : St → Prop} {o : Nat} (ho : Ob G o 0) (hB : Q (gX0_init G o)) : EvVa K mX0_init 1 0 [(0, .ref o)] [] G Q := by
  refine E_aload_n 0 dX0_init_0 rfl rfl rfl ?_
  refine E_objInit (by decide) tm_79 tm_28 tm_29 (Nat.le_of_ble_eq_true rfl) dX0_init_1 ?_
  refine E_aload_n 0 dX0_init_4 rfl rfl rfl ?_
  refine E_bipush (v := 120) dX0_init_5 (by decide) ?_
  have hv := ob_nx ho
  refine E_newa (atype := .int) (ty := .int) (t := 0) (N := 120) tm_103 rfl (Or.inl ⟨rfl, rfl⟩) (by decide) (by decide) (by decide) dX0_init_7 ?_
  have ha := ar_new (t := 0) (n := 120) hv
  have ho := ob_uN (kd := 100 + 0) (n := 120) ho
  refine E_fR fF_X0_13 rfl rfl ho hv dX0_init_9 ?_
  have ho := ob_uR (a := o) (b := 0) (v := (nx G)) ho
  refine E_aload_n 0 dX0_init_12 rfl rfl rfl ?_
  refine E_bipush (v := 120) dX0_init_13 (by decide) ?_
  have hv := ob_nx ho
  refine E_newa (atype := .long) (ty := .long) (t := 1) (N := 120) tm_104 rfl (Or.inr (Or.inl ⟨rfl, rfl⟩)) (by decide) (by decide) (by decide) dX0_init_15 ?_
  have ha := ar_new (t := 1) (n := 120) hv
  have ho := ob_uN (kd := 100 + 1) (n := 120) ho
  refine E_fR fF_X0_19 rfl rfl ho hv dX0_init_17 ?_
  have ho := ob_uR (a := o) (b := 1) (v := (nx G + 1)) ho
  refine E_aload_n 0 dX0_init_20 rfl rfl rfl ?_
  refine E_iconst (v := 4) dX0_init_21 (by decide) ?_
  have hv := ob_nx ho
  refine E_newa (atype := .int) (ty := .int) (t := 0) (N := 4) tm_103 rfl (Or.inl ⟨rfl, rfl⟩) (by decide) (by decide) (by decide) dX0_init_22 ?_
  have ha := ar_new (t := 0) (n := 4) hv
  have ho := ob_uN (kd := 100 + 0) (n := 4) ho
  refine E_fR fF_X0_23 rfl rfl ho hv dX0_init_24 ?_
  have ho := ob_uR (a := o) (b := 3) (v := (nx G + 2)) ho
  refine E_aload_n 0 dX0_init_27 rfl rfl rfl ?_
  refine E_iconst (v := 4) dX0_init_28 (by decide) ?_
  have hv := ob_nx ho
  refine E_newa (atype := .int) (ty := .int) (t := 0) (N := 4) tm_103 rfl (Or.inl ⟨rfl, rfl⟩) (by decide) (by decide) (by decide) dX0_init_29 ?_
  have ha := ar_new (t := 0) (n := 4) hv
  have ho := ob_uN (kd := 100 + 0) (n := 4) ho
  refine E_fR fF_X0_26 rfl rfl ho hv dX0_init_31 ?_
  have ho := ob_uR (a := o) (b := 4) (v := (nx G + 3)) ho
  refine E_aload_n 0 dX0_init_34 rfl rfl rfl ?_
  refine E_bipush (v := 30) dX0_init_35 (by decide) ?_
  have hv := ob_nx ho
  refine E_newa (atype := .int) (ty := .int) (t := 0) (N := 30) tm_103 rfl (Or.inl ⟨rfl, rfl⟩) (by decide) (by decide) (by decide) dX0_init_37 ?_
  have ha := ar_new (t := 0) (n := 30) hv
  have ho := ob_uN (kd := 100 + 0) (n := 30) ho
  refine E_fR fF_X0_29 rfl rfl ho hv dX0_init_39 ?_
  have ho := ob_uR (a := o) (b := 5) (v := (nx G + 4)) ho
  exact E_vret rfl dX0_init_42 ⟨rfl, hB⟩
def gX1_init (G : St) (o : Nat) : St := (uR (uN (uR (uN (uR (uN (uR (uN (uR (uN (uR (uN (uR (uN (uR (uN (uR (uN G 101 5) o 0 (nx G)) 100 5) o 1 (nx G + 1)) 101 20) o 2 (nx G + 2)) 100 20) o 3 (nx G + 3)) 100 30) o 4 (nx G + 4)) 100 30) o 5 (nx G + 5)) 100 5) o 6 (nx G + 6)) 101 120) o 7 (nx G + 7)) 100 4) o 8 (nx G + 8))
theorem ogX1_init {G : St} {i c o : Nat} (h : Ob G i c) : Ob (gX1_init G o) i c := (ob_uR (ob_uN (ob_uR (ob_uN (ob_uR (ob_uN (ob_uR (ob_uN (ob_uR (ob_uN (ob_uR (ob_uN (ob_uR (ob_uN (ob_uR (ob_uN (ob_uR (ob_uN h))))))))))))))))))
set_option maxRecDepth 20000 in
set_option maxHeartbeats 4000000 in
theorem nX1_init {K : KT} {G : St} {Q : St → Prop} {o : Nat} (ho : Ob G o 1) (hB : Q (gX1_init G o)) : EvVa K mX1_init 1 0 [(0, .ref o)] [] G Q := by
  refine E_aload_n 0 dX1_init_0 rfl rfl rfl ?_
  refine E_objInit (by decide) tm_284 tm_28 tm_29 (Nat.le_of_ble_eq_true rfl) dX1_init_1 ?_
  refine E_aload_n 0 dX1_init_4 rfl rfl rfl ?_
  refine E_iconst (v := 5) dX1_init_5 (by decide) ?_
  have hv := ob_nx ho
  refine E_newa (atype := .long) (ty := .long) (t := 1) (N := 5) tm_104 rfl (Or.inr (Or.inl ⟨rfl, rfl⟩)) (by decide) (by decide) (by decide) dX1_init_6 ?_
  have ha := ar_new (t := 1) (n := 5) hv
  have ho := ob_uN (kd := 100 + 1) (n := 5) ho
  refine E_fR fF_X1_11 rfl rfl ho hv dX1_init_8 ?_
  have ho := ob_uR (a := o) (b := 0) (v := (nx G)) ho
  refine E_aload_n 0 dX1_init_11 rfl rfl rfl ?_
  refine E_iconst (v := 5) dX1_init_12 (by decide) ?_
  have hv := ob_nx ho
  refine E_newa (atype := .int) (ty := .int) (t := 0) (N := 5) tm_103 rfl (Or.inl ⟨rfl, rfl⟩) (by decide) (by decide) (by decide) dX1_init_13 ?_
  have ha := ar_new (t := 0) (n := 5) hv
  have ho := ob_uN (kd := 100 + 0) (n := 5) ho
  refine E_fR fF_X1_15 rfl rfl ho hv dX1_init_15 ?_
  have ho := ob_uR (a := o) (b := 1) (v := (nx G + 1)) ho
  refine E_aload_n 0 dX1_init_18 rfl rfl rfl ?_
  refine E_bipush (v := 20) dX1_init_19 (by decide) ?_
  have hv := ob_nx ho
  refine E_newa (atype := .long) (ty := .long) (t := 1) (N := 20) tm_104 rfl (Or.inr (Or.inl ⟨rfl, rfl⟩)) (by decide) (by decide) (by decide) dX1_init_21 ?_
  have ha := ar_new (t := 1) (n := 20) hv
  have ho := ob_uN (kd := 100 + 1) (n := 20) ho
  refine E_fR fF_X1_19 rfl rfl ho hv dX1_init_23 ?_
  have ho := ob_uR (a := o) (b := 2) (v := (nx G + 2)) ho
  refine E_aload_n 0 dX1_init_26 rfl rfl rfl ?_
  refine E_bipush (v := 20) dX1_init_27 (by decide) ?_
  have hv := ob_nx ho
  refine E_newa (atype := .int) (ty := .int) (t := 0) (N := 20) tm_103 rfl (Or.inl ⟨rfl, rfl⟩) (by decide) (by decide) (by decide) dX1_init_29 ?_
  have ha := ar_new (t := 0) (n := 20) hv
  have ho := ob_uN (kd := 100 + 0) (n := 20) ho
  refine E_fR fF_X1_22 rfl rfl ho hv dX1_init_31 ?_
  have ho := ob_uR (a := o) (b := 3) (v := (nx G + 3)) ho
  refine E_aload_n 0 dX1_init_34 rfl rfl rfl ?_
  refine E_bipush (v := 30) dX1_init_35 (by decide) ?_
  have hv := ob_nx ho
  refine E_newa (atype := .int) (ty := .int) (t := 0) (N := 30) tm_103 rfl (Or.inl ⟨rfl, rfl⟩) (by decide) (by decide) (by decide) dX1_init_37 ?_
  have ha := ar_new (t := 0) (n := 30) hv
  have ho := ob_uN (kd := 100 + 0) (n := 30) ho
  refine E_fR fF_X1_25 rfl rfl ho hv dX1_init_39 ?_
  have ho := ob_uR (a := o) (b := 4) (v := (nx G + 4)) ho
  refine E_aload_n 0 dX1_init_42 rfl rfl rfl ?_
  refine E_bipush (v := 30) dX1_init_43 (by decide) ?_
  have hv := ob_nx ho
  refine E_newa (atype := .int) (ty := .int) (t := 0) (N := 30) tm_103 rfl (Or.inl ⟨rfl, rfl⟩) (by decide) (by decide) (by decide) dX1_init_45 ?_
  have ha := ar_new (t := 0) (n := 30) hv
  have ho := ob_uN (kd := 100 + 0) (n := 30) ho
  refine E_fR fF_X1_28 rfl rfl ho hv dX1_init_47 ?_
  have ho := ob_uR (a := o) (b := 5) (v := (nx G + 5)) ho
  refine E_aload_n 0 dX1_init_50 rfl rfl rfl ?_
  refine E_iconst (v := 5) dX1_init_51 (by decide) ?_
  have hv := ob_nx ho
  refine E_newa (atype := .int) (ty := .int) (t := 0) (N := 5) tm_103 rfl (Or.inl ⟨rfl, rfl⟩) (by decide) (by decide) (by decide) dX1_init_52 ?_
  have ha := ar_new (t := 0) (n := 5) hv
  have ho := ob_uN (kd := 100 + 0) (n := 5) ho
  refine E_fR fF_X1_31 rfl rfl ho hv dX1_init_54 ?_
  have ho := ob_uR (a := o) (b := 6) (v := (nx G + 6)) ho
  refine E_aload_n 0 dX1_init_57 rfl rfl rfl ?_
  refine E_bipush (v := 120) dX1_init_58 (by decide) ?_
  have hv := ob_nx ho
  refine E_newa (atype := .long) (ty := .long) (t := 1) (N := 120) tm_104 rfl (Or.inr (Or.inl ⟨rfl, rfl⟩)) (by decide) (by decide) (by decide) dX1_init_60 ?_
  have ha := ar_new (t := 1) (n := 120) hv
  have ho := ob_uN (kd := 100 + 1) (n := 120) ho
  refine E_fR fF_X1_34 rfl rfl ho hv dX1_init_62 ?_
  have ho := ob_uR (a := o) (b := 7) (v := (nx G + 7)) ho
  refine E_aload_n 0 dX1_init_65 rfl rfl rfl ?_
  refine E_iconst (v := 4) dX1_init_66 (by decide) ?_
  have hv := ob_nx ho
  refine E_newa (atype := .int) (ty := .int) (t := 0) (N := 4) tm_103 rfl (Or.inl ⟨rfl, rfl⟩) (by decide) (by decide) (by decide) dX1_init_67 ?_
  have ha := ar_new (t := 0) (n := 4) hv
  have ho := ob_uN (kd := 100 + 0) (n := 4) ho
  refine E_fR fF_X1_37 rfl rfl ho hv dX1_init_69 ?_
  have ho := ob_uR (a := o) (b := 8) (v := (nx G + 8)) ho
  exact E_vret rfl dX1_init_72 ⟨rfl, hB⟩
def gX2_init (G : St) (o : Nat) : St := (uR (uN (uR (uN (uR (uN G 100 400) o 0 (nx G)) 100 20) o 1 (nx G + 1)) 103 20) o 2 (nx G + 2))
theorem ogX2_init {G : St} {i c o : Nat} (h : Ob G i c) : Ob (gX2_init G o) i c := (ob_uR (ob_uN (ob_uR (ob_uN (ob_uR (ob_uN h))))))
set_option maxRecDepth 20000 in
set_option maxHeartbeats 4000000 in
theorem nX2_init {K : KT} {G : St} {Q : St → Prop} {o : Nat} (ho : Ob G o 2) (hB : Q (gX2_init G o)) : EvVa K mX2_init 1 0 [(0, .ref o)] [] G Q := by
  refine E_aload_n 0 dX2_init_0 rfl rfl rfl ?_
  refine E_objInit (by decide) tm_132 tm_28 tm_29 (Nat.le_of_ble_eq_true rfl) dX2_init_1 ?_
  refine E_aload_n 0 dX2_init_4 rfl rfl rfl ?_
  refine E_sipush (v := 400) dX2_init_5 (by decide) ?_
  have hv := ob_nx ho
  refine E_newa (atype := .int) (ty := .int) (t := 0) (N := 400) tm_103 rfl (Or.inl ⟨rfl, rfl⟩) (by decide) (by decide) (by decide) dX2_init_8 ?_
  have ha := ar_new (t := 0) (n := 400) hv
  have ho := ob_uN (kd := 100 + 0) (n := 400) ho
  refine E_fR fF_X2_13 rfl rfl ho hv dX2_init_10 ?_
  have ho := ob_uR (a := o) (b := 0) (v := (nx G)) ho
  refine E_aload_n 0 dX2_init_13 rfl rfl rfl ?_
  refine E_bipush (v := 20) dX2_init_14 (by decide) ?_
  have hv := ob_nx ho
  refine E_newa (atype := .int) (ty := .int) (t := 0) (N := 20) tm_103 rfl (Or.inl ⟨rfl, rfl⟩) (by decide) (by decide) (by decide) dX2_init_16 ?_
  have ha := ar_new (t := 0) (n := 20) hv
  have ho := ob_uN (kd := 100 + 0) (n := 20) ho
  refine E_fR fF_X2_17 rfl rfl ho hv dX2_init_18 ?_
  have ho := ob_uR (a := o) (b := 1) (v := (nx G + 1)) ho
  refine E_aload_n 0 dX2_init_21 rfl rfl rfl ?_
  refine E_bipush (v := 20) dX2_init_22 (by decide) ?_
  have hv := ob_nx ho
  refine E_newa (atype := .boolean) (ty := .boolean) (t := 3) (N := 20) tm_152 rfl (Or.inr (Or.inr (Or.inr ⟨rfl, rfl⟩))) (by decide) (by decide) (by decide) dX2_init_24 ?_
  have ha := ar_new (t := 3) (n := 20) hv
  have ho := ob_uN (kd := 100 + 3) (n := 20) ho
  refine E_fR fF_X2_20 rfl rfl ho hv dX2_init_26 ?_
  have ho := ob_uR (a := o) (b := 2) (v := (nx G + 2)) ho
  exact E_vret rfl dX2_init_29 ⟨rfl, hB⟩
def gX3_init (G : St) (o : Nat) : St := G
theorem ogX3_init {G : St} {i c o : Nat} (h : Ob G i c) : Ob (gX3_init G o) i c := h
set_option maxRecDepth 20000 in
set_option maxHeartbeats 4000000 in
theorem nX3_init {K : KT} {G : St} {Q : St → Prop} {o : Nat} (ho : Ob G o 3) (hB : Q (gX3_init G o)) : EvVa K mX3_init 1 0 [(0, .ref o)] [] G Q := by
  refine E_aload_n 0 dX3_init_0 rfl rfl rfl ?_
  refine E_objInit (by decide) tm_269 tm_28 tm_29 (Nat.le_of_ble_eq_true rfl) dX3_init_1 ?_
  exact E_vret rfl dX3_init_4 ⟨rfl, hB⟩
def gX4_init (G : St) (o : Nat) : St := (uI (uR (uN (uR (uN (uR (uN (uR (uN (uR (uN (uR (uN (uR (uN (uR (uN (uR (uN G 100 64) o 0 (nx G)) 100 32) o 1 (nx G + 1)) 100 32) o 2 (nx G + 2)) 100 32) o 3 (nx G + 3)) 100 32) o 4 (nx G + 4)) 100 32) o 5 (nx G + 5)) 100 251) o 6 (nx G + 6)) 100 251) o 7 (nx G + 7)) 102 200) o 8 (nx G + 8)) o 10 (-1))
theorem ogX4_init {G : St} {i c o : Nat} (h : Ob G i c) : Ob (gX4_init G o) i c := (ob_uI (ob_uR (ob_uN (ob_uR (ob_uN (ob_uR (ob_uN (ob_uR (ob_uN (ob_uR (ob_uN (ob_uR (ob_uN (ob_uR (ob_uN (ob_uR (ob_uN (ob_uR (ob_uN h)))))))))))))))))))
set_option maxRecDepth 20000 in
set_option maxHeartbeats 4000000 in
theorem nX4_init {K : KT} {G : St} {Q : St → Prop} {o : Nat} (ho : Ob G o 4) (hB : Q (gX4_init G o)) : EvVa K mX4_init 1 0 [(0, .ref o)] [] G Q := by
  refine E_aload_n 0 dX4_init_0 rfl rfl rfl ?_
  refine E_objInit (by decide) tm_222 tm_28 tm_29 (Nat.le_of_ble_eq_true rfl) dX4_init_1 ?_
  refine E_aload_n 0 dX4_init_4 rfl rfl rfl ?_
  refine E_bipush (v := 64) dX4_init_5 (by decide) ?_
  have hv := ob_nx ho
  refine E_newa (atype := .int) (ty := .int) (t := 0) (N := 64) tm_103 rfl (Or.inl ⟨rfl, rfl⟩) (by decide) (by decide) (by decide) dX4_init_7 ?_
  have ha := ar_new (t := 0) (n := 64) hv
  have ho := ob_uN (kd := 100 + 0) (n := 64) ho
  refine E_fR fF_X4_13 rfl rfl ho hv dX4_init_9 ?_
  have ho := ob_uR (a := o) (b := 0) (v := (nx G)) ho
  refine E_aload_n 0 dX4_init_12 rfl rfl rfl ?_
  refine E_bipush (v := 32) dX4_init_13 (by decide) ?_
  have hv := ob_nx ho
  refine E_newa (atype := .int) (ty := .int) (t := 0) (N := 32) tm_103 rfl (Or.inl ⟨rfl, rfl⟩) (by decide) (by decide) (by decide) dX4_init_15 ?_
  have ha := ar_new (t := 0) (n := 32) hv
  have ho := ob_uN (kd := 100 + 0) (n := 32) ho
  refine E_pR fP_X4_17 rfl ho hv dX4_init_17 ?_
  have ho := ob_uR (a := o) (b := 1) (v := (nx G + 1)) ho
  refine E_aload_n 0 dX4_init_20 rfl rfl rfl ?_
  refine E_bipush (v := 32) dX4_init_21 (by decide) ?_
  have hv := ob_nx ho
  refine E_newa (atype := .int) (ty := .int) (t := 0) (N := 32) tm_103 rfl (Or.inl ⟨rfl, rfl⟩) (by decide) (by decide) (by decide) dX4_init_23 ?_
  have ha := ar_new (t := 0) (n := 32) hv
  have ho := ob_uN (kd := 100 + 0) (n := 32) ho
  refine E_pR fP_X4_20 rfl ho hv dX4_init_25 ?_
  have ho := ob_uR (a := o) (b := 2) (v := (nx G + 2)) ho
  refine E_aload_n 0 dX4_init_28 rfl rfl rfl ?_
  refine E_bipush (v := 32) dX4_init_29 (by decide) ?_
  have hv := ob_nx ho
  refine E_newa (atype := .int) (ty := .int) (t := 0) (N := 32) tm_103 rfl (Or.inl ⟨rfl, rfl⟩) (by decide) (by decide) (by decide) dX4_init_31 ?_
  have ha := ar_new (t := 0) (n := 32) hv
  have ho := ob_uN (kd := 100 + 0) (n := 32) ho
  refine E_pR fP_X4_23 rfl ho hv dX4_init_33 ?_
  have ho := ob_uR (a := o) (b := 3) (v := (nx G + 3)) ho
  refine E_aload_n 0 dX4_init_36 rfl rfl rfl ?_
  refine E_bipush (v := 32) dX4_init_37 (by decide) ?_
  have hv := ob_nx ho
  refine E_newa (atype := .int) (ty := .int) (t := 0) (N := 32) tm_103 rfl (Or.inl ⟨rfl, rfl⟩) (by decide) (by decide) (by decide) dX4_init_39 ?_
  have ha := ar_new (t := 0) (n := 32) hv
  have ho := ob_uN (kd := 100 + 0) (n := 32) ho
  refine E_pR fP_X4_26 rfl ho hv dX4_init_41 ?_
  have ho := ob_uR (a := o) (b := 4) (v := (nx G + 4)) ho
  refine E_aload_n 0 dX4_init_44 rfl rfl rfl ?_
  refine E_bipush (v := 32) dX4_init_45 (by decide) ?_
  have hv := ob_nx ho
  refine E_newa (atype := .int) (ty := .int) (t := 0) (N := 32) tm_103 rfl (Or.inl ⟨rfl, rfl⟩) (by decide) (by decide) (by decide) dX4_init_47 ?_
  have ha := ar_new (t := 0) (n := 32) hv
  have ho := ob_uN (kd := 100 + 0) (n := 32) ho
  refine E_pR fP_X4_29 rfl ho hv dX4_init_49 ?_
  have ho := ob_uR (a := o) (b := 5) (v := (nx G + 5)) ho
  refine E_aload_n 0 dX4_init_52 rfl rfl rfl ?_
  refine E_sipush (v := 251) dX4_init_53 (by decide) ?_
  have hv := ob_nx ho
  refine E_newa (atype := .int) (ty := .int) (t := 0) (N := 251) tm_103 rfl (Or.inl ⟨rfl, rfl⟩) (by decide) (by decide) (by decide) dX4_init_56 ?_
  have ha := ar_new (t := 0) (n := 251) hv
  have ho := ob_uN (kd := 100 + 0) (n := 251) ho
  refine E_fR fF_X4_32 rfl rfl ho hv dX4_init_58 ?_
  have ho := ob_uR (a := o) (b := 6) (v := (nx G + 6)) ho
  refine E_aload_n 0 dX4_init_61 rfl rfl rfl ?_
  refine E_sipush (v := 251) dX4_init_62 (by decide) ?_
  have hv := ob_nx ho
  refine E_newa (atype := .int) (ty := .int) (t := 0) (N := 251) tm_103 rfl (Or.inl ⟨rfl, rfl⟩) (by decide) (by decide) (by decide) dX4_init_65 ?_
  have ha := ar_new (t := 0) (n := 251) hv
  have ho := ob_uN (kd := 100 + 0) (n := 251) ho
  refine E_fR fF_X4_35 rfl rfl ho hv dX4_init_67 ?_
  have ho := ob_uR (a := o) (b := 7) (v := (nx G + 7)) ho
  refine E_aload_n 0 dX4_init_70 rfl rfl rfl ?_
  refine E_sipush (v := 200) dX4_init_71 (by decide) ?_
  have hv := ob_nx ho
  refine E_newa (atype := .byte) (ty := .byte) (t := 2) (N := 200) tm_59 rfl (Or.inr (Or.inr (Or.inl ⟨rfl, rfl⟩))) (by decide) (by decide) (by decide) dX4_init_74 ?_
  have ha := ar_new (t := 2) (n := 200) hv
  have ho := ob_uN (kd := 100 + 2) (n := 200) ho
  refine E_fR fF_X4_38 rfl rfl ho hv dX4_init_76 ?_
  have ho := ob_uR (a := o) (b := 8) (v := (nx G + 8)) ho
  refine E_aload_n 0 dX4_init_79 rfl rfl rfl ?_
  refine E_iconst (v := (-1)) dX4_init_80 (by decide) ?_
  refine E_pI fP_X4_42 rfl ho dX4_init_81 ?_
  have ho := ob_uI (a := o) (k := 10) (v := (-1)) ho
  exact E_vret rfl dX4_init_84 ⟨rfl, hB⟩
def gX5_init (G : St) (o p1 : Nat) : St := (uR G o 0 p1)
theorem ogX5_init {G : St} {i c o p1 : Nat} (h : Ob G i c) : Ob (gX5_init G o p1) i c := (ob_uR h)
set_option maxRecDepth 20000 in
set_option maxHeartbeats 4000000 in
theorem nX5_init {K : KT} {G : St} {Q : St → Prop} {o : Nat} {p1 : Nat} (h_p1 : 0 < p1) (ho : Ob G o 5) (hB : Q (gX5_init G o p1)) : EvVa K mX5_init 1 0 [(0, .ref o), (1, .ref p1)] [] G Q := by
  refine E_aload_n 0 dX5_init_0 rfl rfl rfl ?_
  refine E_objInit (by decide) tm_65 tm_28 tm_29 (Nat.le_of_ble_eq_true rfl) dX5_init_1 ?_
  refine E_aload_n 0 dX5_init_4 rfl rfl rfl ?_
  refine E_aload_n 1 dX5_init_5 rfl rfl rfl ?_
  refine E_fR fF_X5_9 rfl rfl ho h_p1 dX5_init_6 ?_
  have ho := ob_uR (a := o) (b := 0) (v := p1) ho
  exact E_vret rfl dX5_init_9 ⟨rfl, hB⟩
def gX6_init (G : St) (o p1 p2 : Nat) : St := (uR (uR (uR (uN (uR (uN (uR (uN (uR (uN (uR (uN (uR (uN (uR (uN (uR (uN (uR (uN G 100 30) o 2 (nx G)) 100 6) o 3 (nx G + 1)) 100 30) o 4 (nx G + 2)) 100 6) o 5 (nx G + 3)) 100 65) o 6 (nx G + 4)) 100 64) o 7 (nx G + 5)) 100 64) o 8 (nx G + 6)) 101 64) o 9 (nx G + 7)) 101 64) o 10 (nx G + 8)) o 0 p1) o 1 p2)
theorem ogX6_init {G : St} {i c o p1 p2 : Nat} (h : Ob G i c) : Ob (gX6_init G o p1 p2) i c := (ob_uR (ob_uR (ob_uR (ob_uN (ob_uR (ob_uN (ob_uR (ob_uN (ob_uR (ob_uN (ob_uR (ob_uN (ob_uR (ob_uN (ob_uR (ob_uN (ob_uR (ob_uN (ob_uR (ob_uN h))))))))))))))))))))
set_option maxRecDepth 20000 in
set_option maxHeartbeats 4000000 in
theorem nX6_init {K : KT} {G : St} {Q : St → Prop} {o : Nat} {p1 : Nat} (h_p1 : 0 < p1) {p2 : Nat} (h_p2 : 0 < p2) (ho : Ob G o 6) (hB : Q (gX6_init G o p1 p2)) : EvVa K mX6_init 1 0 [(0, .ref o), (1, .ref p1), (2, .ref p2)] [] G Q := by
  refine E_aload_n 0 dX6_init_0 rfl rfl rfl ?_
  refine E_objInit (by decide) tm_158 tm_28 tm_29 (Nat.le_of_ble_eq_true rfl) dX6_init_1 ?_
  refine E_aload_n 0 dX6_init_4 rfl rfl rfl ?_
  refine E_bipush (v := 30) dX6_init_5 (by decide) ?_
  have hv := ob_nx ho
  refine E_newa (atype := .int) (ty := .int) (t := 0) (N := 30) tm_103 rfl (Or.inl ⟨rfl, rfl⟩) (by decide) (by decide) (by decide) dX6_init_7 ?_
  have ha := ar_new (t := 0) (n := 30) hv
  have ho := ob_uN (kd := 100 + 0) (n := 30) ho
  refine E_fR fF_X6_13 rfl rfl ho hv dX6_init_9 ?_
  have ho := ob_uR (a := o) (b := 2) (v := (nx G)) ho
  refine E_aload_n 0 dX6_init_12 rfl rfl rfl ?_
  refine E_bipush (v := 6) dX6_init_13 (by decide) ?_
  have hv := ob_nx ho
  refine E_newa (atype := .int) (ty := .int) (t := 0) (N := 6) tm_103 rfl (Or.inl ⟨rfl, rfl⟩) (by decide) (by decide) (by decide) dX6_init_15 ?_
  have ha := ar_new (t := 0) (n := 6) hv
  have ho := ob_uN (kd := 100 + 0) (n := 6) ho
  refine E_fR fF_X6_17 rfl rfl ho hv dX6_init_17 ?_
  have ho := ob_uR (a := o) (b := 3) (v := (nx G + 1)) ho
  refine E_aload_n 0 dX6_init_20 rfl rfl rfl ?_
  refine E_bipush (v := 30) dX6_init_21 (by decide) ?_
  have hv := ob_nx ho
  refine E_newa (atype := .int) (ty := .int) (t := 0) (N := 30) tm_103 rfl (Or.inl ⟨rfl, rfl⟩) (by decide) (by decide) (by decide) dX6_init_23 ?_
  have ha := ar_new (t := 0) (n := 30) hv
  have ho := ob_uN (kd := 100 + 0) (n := 30) ho
  refine E_fR fF_X6_20 rfl rfl ho hv dX6_init_25 ?_
  have ho := ob_uR (a := o) (b := 4) (v := (nx G + 2)) ho
  refine E_aload_n 0 dX6_init_28 rfl rfl rfl ?_
  refine E_bipush (v := 6) dX6_init_29 (by decide) ?_
  have hv := ob_nx ho
  refine E_newa (atype := .int) (ty := .int) (t := 0) (N := 6) tm_103 rfl (Or.inl ⟨rfl, rfl⟩) (by decide) (by decide) (by decide) dX6_init_31 ?_
  have ha := ar_new (t := 0) (n := 6) hv
  have ho := ob_uN (kd := 100 + 0) (n := 6) ho
  refine E_fR fF_X6_23 rfl rfl ho hv dX6_init_33 ?_
  have ho := ob_uR (a := o) (b := 5) (v := (nx G + 3)) ho
  refine E_aload_n 0 dX6_init_36 rfl rfl rfl ?_
  refine E_bipush (v := 65) dX6_init_37 (by decide) ?_
  have hv := ob_nx ho
  refine E_newa (atype := .int) (ty := .int) (t := 0) (N := 65) tm_103 rfl (Or.inl ⟨rfl, rfl⟩) (by decide) (by decide) (by decide) dX6_init_39 ?_
  have ha := ar_new (t := 0) (n := 65) hv
  have ho := ob_uN (kd := 100 + 0) (n := 65) ho
  refine E_fR fF_X6_26 rfl rfl ho hv dX6_init_41 ?_
  have ho := ob_uR (a := o) (b := 6) (v := (nx G + 4)) ho
  refine E_aload_n 0 dX6_init_44 rfl rfl rfl ?_
  refine E_bipush (v := 64) dX6_init_45 (by decide) ?_
  have hv := ob_nx ho
  refine E_newa (atype := .int) (ty := .int) (t := 0) (N := 64) tm_103 rfl (Or.inl ⟨rfl, rfl⟩) (by decide) (by decide) (by decide) dX6_init_47 ?_
  have ha := ar_new (t := 0) (n := 64) hv
  have ho := ob_uN (kd := 100 + 0) (n := 64) ho
  refine E_fR fF_X6_29 rfl rfl ho hv dX6_init_49 ?_
  have ho := ob_uR (a := o) (b := 7) (v := (nx G + 5)) ho
  refine E_aload_n 0 dX6_init_52 rfl rfl rfl ?_
  refine E_bipush (v := 64) dX6_init_53 (by decide) ?_
  have hv := ob_nx ho
  refine E_newa (atype := .int) (ty := .int) (t := 0) (N := 64) tm_103 rfl (Or.inl ⟨rfl, rfl⟩) (by decide) (by decide) (by decide) dX6_init_55 ?_
  have ha := ar_new (t := 0) (n := 64) hv
  have ho := ob_uN (kd := 100 + 0) (n := 64) ho
  refine E_fR fF_X6_32 rfl rfl ho hv dX6_init_57 ?_
  have ho := ob_uR (a := o) (b := 8) (v := (nx G + 6)) ho
  refine E_aload_n 0 dX6_init_60 rfl rfl rfl ?_
  refine E_bipush (v := 64) dX6_init_61 (by decide) ?_
  have hv := ob_nx ho
  refine E_newa (atype := .long) (ty := .long) (t := 1) (N := 64) tm_104 rfl (Or.inr (Or.inl ⟨rfl, rfl⟩)) (by decide) (by decide) (by decide) dX6_init_63 ?_
  have ha := ar_new (t := 1) (n := 64) hv
  have ho := ob_uN (kd := 100 + 1) (n := 64) ho
  refine E_pR fP_X6_35 rfl ho hv dX6_init_65 ?_
  have ho := ob_uR (a := o) (b := 9) (v := (nx G + 7)) ho
  refine E_aload_n 0 dX6_init_68 rfl rfl rfl ?_
  refine E_bipush (v := 64) dX6_init_69 (by decide) ?_
  have hv := ob_nx ho
  refine E_newa (atype := .long) (ty := .long) (t := 1) (N := 64) tm_104 rfl (Or.inr (Or.inl ⟨rfl, rfl⟩)) (by decide) (by decide) (by decide) dX6_init_71 ?_
  have ha := ar_new (t := 1) (n := 64) hv
  have ho := ob_uN (kd := 100 + 1) (n := 64) ho
  refine E_pR fP_X6_39 rfl ho hv dX6_init_73 ?_
  have ho := ob_uR (a := o) (b := 10) (v := (nx G + 8)) ho
  refine E_aload_n 0 dX6_init_76 rfl rfl rfl ?_
  refine E_aload_n 1 dX6_init_77 rfl rfl rfl ?_
  refine E_fR fF_X6_42 rfl rfl ho h_p1 dX6_init_78 ?_
  have ho := ob_uR (a := o) (b := 0) (v := p1) ho
  refine E_aload_n 0 dX6_init_81 rfl rfl rfl ?_
  refine E_aload_n 2 dX6_init_82 rfl rfl rfl ?_
  refine E_fR fF_X6_46 rfl rfl ho h_p2 dX6_init_83 ?_
  have ho := ob_uR (a := o) (b := 1) (v := p2) ho
  exact E_vret rfl dX6_init_86 ⟨rfl, hB⟩
def gX7_init (G : St) (o : Nat) : St := (uR (uN G 102 1000) o 0 (nx G))
theorem ogX7_init {G : St} {i c o : Nat} (h : Ob G i c) : Ob (gX7_init G o) i c := (ob_uR (ob_uN h))
set_option maxRecDepth 20000 in
set_option maxHeartbeats 4000000 in
theorem nX7_init {K : KT} {G : St} {Q : St → Prop} {o : Nat} (ho : Ob G o 7) (hB : Q (gX7_init G o)) : EvVa K mX7_init 1 0 [(0, .ref o)] [] G Q := by
  refine E_aload_n 0 dX7_init_0 rfl rfl rfl ?_
  refine E_objInit (by decide) tm_35 tm_28 tm_29 (Nat.le_of_ble_eq_true rfl) dX7_init_1 ?_
  refine E_aload_n 0 dX7_init_4 rfl rfl rfl ?_
  refine E_sipush (v := 1000) dX7_init_5 (by decide) ?_
  have hv := ob_nx ho
  refine E_newa (atype := .byte) (ty := .byte) (t := 2) (N := 1000) tm_59 rfl (Or.inr (Or.inr (Or.inl ⟨rfl, rfl⟩))) (by decide) (by decide) (by decide) dX7_init_8 ?_
  have ha := ar_new (t := 2) (n := 1000) hv
  have ho := ob_uN (kd := 100 + 2) (n := 1000) ho
  refine E_fR fF_X7_9 rfl rfl ho hv dX7_init_10 ?_
  have ho := ob_uR (a := o) (b := 0) (v := (nx G)) ho
  exact E_vret rfl dX7_init_13 ⟨rfl, hB⟩
def gX8_init (G : St) (o : Nat) : St := (uR (uN (uR (uN G 100 4) o 0 (nx G)) 101 4) o 1 (nx G + 1))
theorem ogX8_init {G : St} {i c o : Nat} (h : Ob G i c) : Ob (gX8_init G o) i c := (ob_uR (ob_uN (ob_uR (ob_uN h))))
set_option maxRecDepth 20000 in
set_option maxHeartbeats 4000000 in
theorem nX8_init {K : KT} {G : St} {Q : St → Prop} {o : Nat} (ho : Ob G o 8) (hB : Q (gX8_init G o)) : EvVa K mX8_init 1 0 [(0, .ref o)] [] G Q := by
  refine E_aload_n 0 dX8_init_0 rfl rfl rfl ?_
  refine E_objInit (by decide) tm_346 tm_28 tm_29 (Nat.le_of_ble_eq_true rfl) dX8_init_1 ?_
  refine E_aload_n 0 dX8_init_4 rfl rfl rfl ?_
  refine E_iconst (v := 4) dX8_init_5 (by decide) ?_
  have hv := ob_nx ho
  refine E_newa (atype := .int) (ty := .int) (t := 0) (N := 4) tm_103 rfl (Or.inl ⟨rfl, rfl⟩) (by decide) (by decide) (by decide) dX8_init_6 ?_
  have ha := ar_new (t := 0) (n := 4) hv
  have ho := ob_uN (kd := 100 + 0) (n := 4) ho
  refine E_fR fF_X8_9 rfl rfl ho hv dX8_init_8 ?_
  have ho := ob_uR (a := o) (b := 0) (v := (nx G)) ho
  refine E_aload_n 0 dX8_init_11 rfl rfl rfl ?_
  refine E_iconst (v := 4) dX8_init_12 (by decide) ?_
  have hv := ob_nx ho
  refine E_newa (atype := .long) (ty := .long) (t := 1) (N := 4) tm_104 rfl (Or.inr (Or.inl ⟨rfl, rfl⟩)) (by decide) (by decide) (by decide) dX8_init_13 ?_
  have ha := ar_new (t := 1) (n := 4) hv
  have ho := ob_uN (kd := 100 + 1) (n := 4) ho
  refine E_fR fF_X8_13 rfl rfl ho hv dX8_init_15 ?_
  have ho := ob_uR (a := o) (b := 1) (v := (nx G + 1)) ho
  exact E_vret rfl dX8_init_18 ⟨rfl, hB⟩
def gX9_init (G : St) (o : Nat) : St := (uR (uN (uR (uN G 100 900) o 0 (nx G)) 100 30) o 1 (nx G + 1))
theorem ogX9_init {G : St} {i c o : Nat} (h : Ob G i c) : Ob (gX9_init G o) i c := (ob_uR (ob_uN (ob_uR (ob_uN h))))
set_option maxRecDepth 20000 in
set_option maxHeartbeats 4000000 in
theorem nX9_init {K : KT} {G : St} {Q : St → Prop} {o : Nat} (ho : Ob G o 9) (hB : Q (gX9_init G o)) : EvVa K mX9_init 1 0 [(0, .ref o)] [] G Q := by
  refine E_aload_n 0 dX9_init_0 rfl rfl rfl ?_
  refine E_objInit (by decide) tm_110 tm_28 tm_29 (Nat.le_of_ble_eq_true rfl) dX9_init_1 ?_
  refine E_aload_n 0 dX9_init_4 rfl rfl rfl ?_
  refine E_sipush (v := 900) dX9_init_5 (by decide) ?_
  have hv := ob_nx ho
  refine E_newa (atype := .int) (ty := .int) (t := 0) (N := 900) tm_103 rfl (Or.inl ⟨rfl, rfl⟩) (by decide) (by decide) (by decide) dX9_init_8 ?_
  have ha := ar_new (t := 0) (n := 900) hv
  have ho := ob_uN (kd := 100 + 0) (n := 900) ho
  refine E_fR fF_X9_11 rfl rfl ho hv dX9_init_10 ?_
  have ho := ob_uR (a := o) (b := 0) (v := (nx G)) ho
  refine E_aload_n 0 dX9_init_13 rfl rfl rfl ?_
  refine E_bipush (v := 30) dX9_init_14 (by decide) ?_
  have hv := ob_nx ho
  refine E_newa (atype := .int) (ty := .int) (t := 0) (N := 30) tm_103 rfl (Or.inl ⟨rfl, rfl⟩) (by decide) (by decide) (by decide) dX9_init_16 ?_
  have ha := ar_new (t := 0) (n := 30) hv
  have ho := ob_uN (kd := 100 + 0) (n := 30) ho
  refine E_fR fF_X9_17 rfl rfl ho hv dX9_init_18 ?_
  have ho := ob_uR (a := o) (b := 1) (v := (nx G + 1)) ho
  exact E_vret rfl dX9_init_21 ⟨rfl, hB⟩
def gX12_init (G : St) (o : Nat) : St := (uI (uI (uR (uN (uR (uN (uR (uN (uR (uN (uR (uN (uR (uN (uR (uN (uR (uN (uR (uN (uR (uN (uR (uN (uR (uN (uR (uN (uR (uN (uR (uN (uR (uN (uR (uN (uR (uN (uR (uN (uR (uN (uR (uN (uR (uN (uR (uN (uR (uN (uR (uN (uR (uN (uR (uN (uR (uN (uR (uN (uR (uN (uR (uN (uR (uL (uL (uL (uL (uL (uL (uL (uL (uN (uR (uN (uR (uN (uR (uN (uR (uN G 100 1000) o 1 (nx G)) 100 1002) o 4 (nx G + 1)) 100 1002) o 5 (nx G + 2)) 101 1002) o 6 (nx G + 3)) 101 8) (nx G + 4) 0 10650290) (nx G + 4) 1 397973) (nx G + 4) 2 212302449) (nx G + 4) 3 286880) (nx G + 4) 4 279252) (nx G + 4) 5 311436) (nx G + 4) 6 11438892) (nx G + 4) 7 411) o 9 (nx G + 4)) 100 2) o 10 (nx G + 5)) 101 10) o 11 (nx G + 6)) 100 10) o 12 (nx G + 7)) 101 40) o 13 (nx G + 8)) 100 40) o 14 (nx G + 9)) 100 31) o 18 (nx G + 10)) 101 124) o 19 (nx G + 11)) 100 8) o 22 (nx G + 12)) 101 8) o 23 (nx G + 13)) 100 5) o 24 (nx G + 14)) 100 5) o 25 (nx G + 15)) 103 120) o 28 (nx G + 16)) 100 20) o 30 (nx G + 17)) 100 380) o 32 (nx G + 18)) 100 900) o 33 (nx G + 19)) 100 30) o 34 (nx G + 20)) 100 30) o 35 (nx G + 21)) 100 120) o 36 (nx G + 22)) 100 175000) o 39 (nx G + 23)) 100 175000) o 40 (nx G + 24)) 100 175000) o 41 (nx G + 25)) 100 200) o 42 (nx G + 26)) 100 4099) o 44 (nx G + 27)) 100 60000) o 45 (nx G + 28)) 100 60000) o 46 (nx G + 29)) 100 60000) o 47 (nx G + 30)) 100 60000) o 48 (nx G + 31)) 100 7776) o 49 (nx G + 32)) 100 300) o 51 (nx G + 33)) 103 40) o 55 (nx G + 34)) 103 40) o 56 (nx G + 35)) o 27 4) o 15 1)
theorem ogX12_init {G : St} {i c o : Nat} (h : Ob G i c) : Ob (gX12_init G o) i c := (ob_uI (ob_uI (ob_uR (ob_uN (ob_uR (ob_uN (ob_uR (ob_uN (ob_uR (ob_uN (ob_uR (ob_uN (ob_uR (ob_uN (ob_uR (ob_uN (ob_uR (ob_uN (ob_uR (ob_uN (ob_uR (ob_uN (ob_uR (ob_uN (ob_uR (ob_uN (ob_uR (ob_uN (ob_uR (ob_uN (ob_uR (ob_uN (ob_uR (ob_uN (ob_uR (ob_uN (ob_uR (ob_uN (ob_uR (ob_uN (ob_uR (ob_uN (ob_uR (ob_uN (ob_uR (ob_uN (ob_uR (ob_uN (ob_uR (ob_uN (ob_uR (ob_uN (ob_uR (ob_uN (ob_uR (ob_uN (ob_uR (ob_uN (ob_uR (ob_uN (ob_uR (ob_uN (ob_uR (ob_uN (ob_uR (ob_uL (ob_uL (ob_uL (ob_uL (ob_uL (ob_uL (ob_uL (ob_uL (ob_uN (ob_uR (ob_uN (ob_uR (ob_uN (ob_uR (ob_uN (ob_uR (ob_uN h))))))))))))))))))))))))))))))))))))))))))))))))))))))))))))))))))))))))))))))))))
set_option maxRecDepth 20000 in
set_option maxHeartbeats 4000000 in
theorem nX12_init {K : KT} {G : St} {Q : St → Prop} {o : Nat} (ho : Ob G o 11) (hB : Q (gX12_init G o)) : EvVa K mX12_init 1 0 [(0, .ref o)] [] G Q := by
  refine E_aload_n 0 dX12_init_0 rfl rfl rfl ?_
  refine E_objInit (by decide) tm_1301 tm_28 tm_29 (Nat.le_of_ble_eq_true rfl) dX12_init_1 ?_
  refine E_aload_n 0 dX12_init_4 rfl rfl rfl ?_
  refine E_sipush (v := 1000) dX12_init_5 (by decide) ?_
  have hv := ob_nx ho
  refine E_newa (atype := .int) (ty := .int) (t := 0) (N := 1000) tm_103 rfl (Or.inl ⟨rfl, rfl⟩) (by decide) (by decide) (by decide) dX12_init_8 ?_
  have ha := ar_new (t := 0) (n := 1000) hv
  have ho := ob_uN (kd := 100 + 0) (n := 1000) ho
  refine E_fR fF_X12_14 rfl rfl ho hv dX12_init_10 ?_
  have ho := ob_uR (a := o) (b := 1) (v := (nx G)) ho
  refine E_aload_n 0 dX12_init_13 rfl rfl rfl ?_
  refine E_sipush (v := 1002) dX12_init_14 (by decide) ?_
  have hv := ob_nx ho
  refine E_newa (atype := .int) (ty := .int) (t := 0) (N := 1002) tm_103 rfl (Or.inl ⟨rfl, rfl⟩) (by decide) (by decide) (by decide) dX12_init_17 ?_
  have ha := ar_new (t := 0) (n := 1002) hv
  have ho := ob_uN (kd := 100 + 0) (n := 1002) ho
  refine E_fR fF_X12_24 rfl rfl ho hv dX12_init_19 ?_
  have ho := ob_uR (a := o) (b := 4) (v := (nx G + 1)) ho
  refine E_aload_n 0 dX12_init_22 rfl rfl rfl ?_
  refine E_sipush (v := 1002) dX12_init_23 (by decide) ?_
  have hv := ob_nx ho
  refine E_newa (atype := .int) (ty := .int) (t := 0) (N := 1002) tm_103 rfl (Or.inl ⟨rfl, rfl⟩) (by decide) (by decide) (by decide) dX12_init_26 ?_
  have ha := ar_new (t := 0) (n := 1002) hv
  have ho := ob_uN (kd := 100 + 0) (n := 1002) ho
  refine E_fR fF_X12_27 rfl rfl ho hv dX12_init_28 ?_
  have ho := ob_uR (a := o) (b := 5) (v := (nx G + 2)) ho
  refine E_aload_n 0 dX12_init_31 rfl rfl rfl ?_
  refine E_sipush (v := 1002) dX12_init_32 (by decide) ?_
  have hv := ob_nx ho
  refine E_newa (atype := .long) (ty := .long) (t := 1) (N := 1002) tm_104 rfl (Or.inr (Or.inl ⟨rfl, rfl⟩)) (by decide) (by decide) (by decide) dX12_init_35 ?_
  have ha := ar_new (t := 1) (n := 1002) hv
  have ho := ob_uN (kd := 100 + 1) (n := 1002) ho
  refine E_fR fF_X12_30 rfl rfl ho hv dX12_init_37 ?_
  have ho := ob_uR (a := o) (b := 6) (v := (nx G + 3)) ho
  refine E_aload_n 0 dX12_init_40 rfl rfl rfl ?_
  refine E_bipush (v := 8) dX12_init_41 (by decide) ?_
  have hv := ob_nx ho
  refine E_newa (atype := .long) (ty := .long) (t := 1) (N := 8) tm_104 rfl (Or.inr (Or.inl ⟨rfl, rfl⟩)) (by decide) (by decide) (by decide) dX12_init_43 ?_
  have ha := ar_new (t := 1) (n := 8) hv
  have ho := ob_uN (kd := 100 + 1) (n := 8) ho
  refine E_dup dX12_init_45 rfl ?_
  refine E_iconst (v := 0) dX12_init_46 (by decide) ?_
  refine E_ldc2 (v := 10650290) tm_1302 dX12_init_47 ?_
  refine E_sL (n := 8) (p := 0) ha (by unfold vp_in; decide) (by decide) dX12_init_50 ?_
  have ho := ob_uL (a := (nx G + 4)) (k := 0) (v := 10650290) ho
  refine E_dup dX12_init_51 rfl ?_
  refine E_iconst (v := 1) dX12_init_52 (by decide) ?_
  refine E_ldc2 (v := 397973) tm_1303 dX12_init_53 ?_
  refine E_sL (n := 8) (p := 1) ha (by unfold vp_in; decide) (by decide) dX12_init_56 ?_
  have ho := ob_uL (a := (nx G + 4)) (k := 1) (v := 397973) ho
  refine E_dup dX12_init_57 rfl ?_
  refine E_iconst (v := 2) dX12_init_58 (by decide) ?_
  refine E_ldc2 (v := 212302449) tm_1304 dX12_init_59 ?_
  refine E_sL (n := 8) (p := 2) ha (by unfold vp_in; decide) (by decide) dX12_init_62 ?_
  have ho := ob_uL (a := (nx G + 4)) (k := 2) (v := 212302449) ho
  refine E_dup dX12_init_63 rfl ?_
  refine E_iconst (v := 3) dX12_init_64 (by decide) ?_
  refine E_ldc2 (v := 286880) tm_1305 dX12_init_65 ?_
  refine E_sL (n := 8) (p := 3) ha (by unfold vp_in; decide) (by decide) dX12_init_68 ?_
  have ho := ob_uL (a := (nx G + 4)) (k := 3) (v := 286880) ho
  refine E_dup dX12_init_69 rfl ?_
  refine E_iconst (v := 4) dX12_init_70 (by decide) ?_
  refine E_ldc2 (v := 279252) tm_1306 dX12_init_71 ?_
  refine E_sL (n := 8) (p := 4) ha (by unfold vp_in; decide) (by decide) dX12_init_74 ?_
  have ho := ob_uL (a := (nx G + 4)) (k := 4) (v := 279252) ho
  refine E_dup dX12_init_75 rfl ?_
  refine E_iconst (v := 5) dX12_init_76 (by decide) ?_
  refine E_ldc2 (v := 311436) tm_1307 dX12_init_77 ?_
  refine E_sL (n := 8) (p := 5) ha (by unfold vp_in; decide) (by decide) dX12_init_80 ?_
  have ho := ob_uL (a := (nx G + 4)) (k := 5) (v := 311436) ho
  refine E_dup dX12_init_81 rfl ?_
  refine E_bipush (v := 6) dX12_init_82 (by decide) ?_
  refine E_ldc2 (v := 11438892) tm_1308 dX12_init_84 ?_
  refine E_sL (n := 8) (p := 6) ha (by unfold vp_in; decide) (by decide) dX12_init_87 ?_
  have ho := ob_uL (a := (nx G + 4)) (k := 6) (v := 11438892) ho
  refine E_dup dX12_init_88 rfl ?_
  refine E_bipush (v := 7) dX12_init_89 (by decide) ?_
  refine E_ldc2 (v := 411) tm_1309 dX12_init_91 ?_
  refine E_sL (n := 8) (p := 7) ha (by unfold vp_in; decide) (by decide) dX12_init_94 ?_
  have ho := ob_uL (a := (nx G + 4)) (k := 7) (v := 411) ho
  refine E_fR fF_X12_50 rfl rfl ho hv dX12_init_95 ?_
  have ho := ob_uR (a := o) (b := 9) (v := (nx G + 4)) ho
  refine E_aload_n 0 dX12_init_98 rfl rfl rfl ?_
  refine E_iconst (v := 2) dX12_init_99 (by decide) ?_
  have hv := ob_nx ho
  refine E_newa (atype := .int) (ty := .int) (t := 0) (N := 2) tm_103 rfl (Or.inl ⟨rfl, rfl⟩) (by decide) (by decide) (by decide) dX12_init_100 ?_
  have ha := ar_new (t := 0) (n := 2) hv
  have ho := ob_uN (kd := 100 + 0) (n := 2) ho
  refine E_fR fF_X12_53 rfl rfl ho hv dX12_init_102 ?_
  have ho := ob_uR (a := o) (b := 10) (v := (nx G + 5)) ho
  refine E_aload_n 0 dX12_init_105 rfl rfl rfl ?_
  refine E_bipush (v := 10) dX12_init_106 (by decide) ?_
  have hv := ob_nx ho
  refine E_newa (atype := .long) (ty := .long) (t := 1) (N := 10) tm_104 rfl (Or.inr (Or.inl ⟨rfl, rfl⟩)) (by decide) (by decide) (by decide) dX12_init_108 ?_
  have ha := ar_new (t := 1) (n := 10) hv
  have ho := ob_uN (kd := 100 + 1) (n := 10) ho
  refine E_fR fF_X12_56 rfl rfl ho hv dX12_init_110 ?_
  have ho := ob_uR (a := o) (b := 11) (v := (nx G + 6)) ho
  refine E_aload_n 0 dX12_init_113 rfl rfl rfl ?_
  refine E_bipush (v := 10) dX12_init_114 (by decide) ?_
  have hv := ob_nx ho
  refine E_newa (atype := .int) (ty := .int) (t := 0) (N := 10) tm_103 rfl (Or.inl ⟨rfl, rfl⟩) (by decide) (by decide) (by decide) dX12_init_116 ?_
  have ha := ar_new (t := 0) (n := 10) hv
  have ho := ob_uN (kd := 100 + 0) (n := 10) ho
  refine E_fR fF_X12_59 rfl rfl ho hv dX12_init_118 ?_
  have ho := ob_uR (a := o) (b := 12) (v := (nx G + 7)) ho
  refine E_aload_n 0 dX12_init_121 rfl rfl rfl ?_
  refine E_bipush (v := 40) dX12_init_122 (by decide) ?_
  have hv := ob_nx ho
  refine E_newa (atype := .long) (ty := .long) (t := 1) (N := 40) tm_104 rfl (Or.inr (Or.inl ⟨rfl, rfl⟩)) (by decide) (by decide) (by decide) dX12_init_124 ?_
  have ha := ar_new (t := 1) (n := 40) hv
  have ho := ob_uN (kd := 100 + 1) (n := 40) ho
  refine E_fR fF_X12_62 rfl rfl ho hv dX12_init_126 ?_
  have ho := ob_uR (a := o) (b := 13) (v := (nx G + 8)) ho
  refine E_aload_n 0 dX12_init_129 rfl rfl rfl ?_
  refine E_bipush (v := 40) dX12_init_130 (by decide) ?_
  have hv := ob_nx ho
  refine E_newa (atype := .int) (ty := .int) (t := 0) (N := 40) tm_103 rfl (Or.inl ⟨rfl, rfl⟩) (by decide) (by decide) (by decide) dX12_init_132 ?_
  have ha := ar_new (t := 0) (n := 40) hv
  have ho := ob_uN (kd := 100 + 0) (n := 40) ho
  refine E_fR fF_X12_65 rfl rfl ho hv dX12_init_134 ?_
  have ho := ob_uR (a := o) (b := 14) (v := (nx G + 9)) ho
  refine E_aload_n 0 dX12_init_137 rfl rfl rfl ?_
  refine E_bipush (v := 31) dX12_init_138 (by decide) ?_
  have hv := ob_nx ho
  refine E_newa (atype := .int) (ty := .int) (t := 0) (N := 31) tm_103 rfl (Or.inl ⟨rfl, rfl⟩) (by decide) (by decide) (by decide) dX12_init_140 ?_
  have ha := ar_new (t := 0) (n := 31) hv
  have ho := ob_uN (kd := 100 + 0) (n := 31) ho
  refine E_fR fF_X12_68 rfl rfl ho hv dX12_init_142 ?_
  have ho := ob_uR (a := o) (b := 18) (v := (nx G + 10)) ho
  refine E_aload_n 0 dX12_init_145 rfl rfl rfl ?_
  refine E_bipush (v := 124) dX12_init_146 (by decide) ?_
  have hv := ob_nx ho
  refine E_newa (atype := .long) (ty := .long) (t := 1) (N := 124) tm_104 rfl (Or.inr (Or.inl ⟨rfl, rfl⟩)) (by decide) (by decide) (by decide) dX12_init_148 ?_
  have ha := ar_new (t := 1) (n := 124) hv
  have ho := ob_uN (kd := 100 + 1) (n := 124) ho
  refine E_fR fF_X12_71 rfl rfl ho hv dX12_init_150 ?_
  have ho := ob_uR (a := o) (b := 19) (v := (nx G + 11)) ho
  refine E_aload_n 0 dX12_init_153 rfl rfl rfl ?_
  refine E_bipush (v := 8) dX12_init_154 (by decide) ?_
  have hv := ob_nx ho
  refine E_newa (atype := .int) (ty := .int) (t := 0) (N := 8) tm_103 rfl (Or.inl ⟨rfl, rfl⟩) (by decide) (by decide) (by decide) dX12_init_156 ?_
  have ha := ar_new (t := 0) (n := 8) hv
  have ho := ob_uN (kd := 100 + 0) (n := 8) ho
  refine E_fR fF_X12_74 rfl rfl ho hv dX12_init_158 ?_
  have ho := ob_uR (a := o) (b := 22) (v := (nx G + 12)) ho
  refine E_aload_n 0 dX12_init_161 rfl rfl rfl ?_
  refine E_bipush (v := 8) dX12_init_162 (by decide) ?_
  have hv := ob_nx ho
  refine E_newa (atype := .long) (ty := .long) (t := 1) (N := 8) tm_104 rfl (Or.inr (Or.inl ⟨rfl, rfl⟩)) (by decide) (by decide) (by decide) dX12_init_164 ?_
  have ha := ar_new (t := 1) (n := 8) hv
  have ho := ob_uN (kd := 100 + 1) (n := 8) ho
  refine E_fR fF_X12_77 rfl rfl ho hv dX12_init_166 ?_
  have ho := ob_uR (a := o) (b := 23) (v := (nx G + 13)) ho
  refine E_aload_n 0 dX12_init_169 rfl rfl rfl ?_
  refine E_iconst (v := 5) dX12_init_170 (by decide) ?_
  have hv := ob_nx ho
  refine E_newa (atype := .int) (ty := .int) (t := 0) (N := 5) tm_103 rfl (Or.inl ⟨rfl, rfl⟩) (by decide) (by decide) (by decide) dX12_init_171 ?_
  have ha := ar_new (t := 0) (n := 5) hv
  have ho := ob_uN (kd := 100 + 0) (n := 5) ho
  refine E_fR fF_X12_80 rfl rfl ho hv dX12_init_173 ?_
  have ho := ob_uR (a := o) (b := 24) (v := (nx G + 14)) ho
  refine E_aload_n 0 dX12_init_176 rfl rfl rfl ?_
  refine E_iconst (v := 5) dX12_init_177 (by decide) ?_
  have hv := ob_nx ho
  refine E_newa (atype := .int) (ty := .int) (t := 0) (N := 5) tm_103 rfl (Or.inl ⟨rfl, rfl⟩) (by decide) (by decide) (by decide) dX12_init_178 ?_
  have ha := ar_new (t := 0) (n := 5) hv
  have ho := ob_uN (kd := 100 + 0) (n := 5) ho
  refine E_fR fF_X12_83 rfl rfl ho hv dX12_init_180 ?_
  have ho := ob_uR (a := o) (b := 25) (v := (nx G + 15)) ho
  refine E_aload_n 0 dX12_init_183 rfl rfl rfl ?_
  refine E_bipush (v := 120) dX12_init_184 (by decide) ?_
  have hv := ob_nx ho
  refine E_newa (atype := .boolean) (ty := .boolean) (t := 3) (N := 120) tm_152 rfl (Or.inr (Or.inr (Or.inr ⟨rfl, rfl⟩))) (by decide) (by decide) (by decide) dX12_init_186 ?_
  have ha := ar_new (t := 3) (n := 120) hv
  have ho := ob_uN (kd := 100 + 3) (n := 120) ho
  refine E_fR fF_X12_86 rfl rfl ho hv dX12_init_188 ?_
  have ho := ob_uR (a := o) (b := 28) (v := (nx G + 16)) ho
  refine E_aload_n 0 dX12_init_191 rfl rfl rfl ?_
  refine E_bipush (v := 20) dX12_init_192 (by decide) ?_
  have hv := ob_nx ho
  refine E_newa (atype := .int) (ty := .int) (t := 0) (N := 20) tm_103 rfl (Or.inl ⟨rfl, rfl⟩) (by decide) (by decide) (by decide) dX12_init_194 ?_
  have ha := ar_new (t := 0) (n := 20) hv
  have ho := ob_uN (kd := 100 + 0) (n := 20) ho
  refine E_fR fF_X12_90 rfl rfl ho hv dX12_init_196 ?_
  have ho := ob_uR (a := o) (b := 30) (v := (nx G + 17)) ho
  refine E_aload_n 0 dX12_init_199 rfl rfl rfl ?_
  refine E_sipush (v := 380) dX12_init_200 (by decide) ?_
  have hv := ob_nx ho
  refine E_newa (atype := .int) (ty := .int) (t := 0) (N := 380) tm_103 rfl (Or.inl ⟨rfl, rfl⟩) (by decide) (by decide) (by decide) dX12_init_203 ?_
  have ha := ar_new (t := 0) (n := 380) hv
  have ho := ob_uN (kd := 100 + 0) (n := 380) ho
  refine E_fR fF_X12_93 rfl rfl ho hv dX12_init_205 ?_
  have ho := ob_uR (a := o) (b := 32) (v := (nx G + 18)) ho
  refine E_aload_n 0 dX12_init_208 rfl rfl rfl ?_
  refine E_sipush (v := 900) dX12_init_209 (by decide) ?_
  have hv := ob_nx ho
  refine E_newa (atype := .int) (ty := .int) (t := 0) (N := 900) tm_103 rfl (Or.inl ⟨rfl, rfl⟩) (by decide) (by decide) (by decide) dX12_init_212 ?_
  have ha := ar_new (t := 0) (n := 900) hv
  have ho := ob_uN (kd := 100 + 0) (n := 900) ho
  refine E_fR fF_X12_96 rfl rfl ho hv dX12_init_214 ?_
  have ho := ob_uR (a := o) (b := 33) (v := (nx G + 19)) ho
  refine E_aload_n 0 dX12_init_217 rfl rfl rfl ?_
  refine E_bipush (v := 30) dX12_init_218 (by decide) ?_
  have hv := ob_nx ho
  refine E_newa (atype := .int) (ty := .int) (t := 0) (N := 30) tm_103 rfl (Or.inl ⟨rfl, rfl⟩) (by decide) (by decide) (by decide) dX12_init_220 ?_
  have ha := ar_new (t := 0) (n := 30) hv
  have ho := ob_uN (kd := 100 + 0) (n := 30) ho
  refine E_fR fF_X12_99 rfl rfl ho hv dX12_init_222 ?_
  have ho := ob_uR (a := o) (b := 34) (v := (nx G + 20)) ho
  refine E_aload_n 0 dX12_init_225 rfl rfl rfl ?_
  refine E_bipush (v := 30) dX12_init_226 (by decide) ?_
  have hv := ob_nx ho
  refine E_newa (atype := .int) (ty := .int) (t := 0) (N := 30) tm_103 rfl (Or.inl ⟨rfl, rfl⟩) (by decide) (by decide) (by decide) dX12_init_228 ?_
  have ha := ar_new (t := 0) (n := 30) hv
  have ho := ob_uN (kd := 100 + 0) (n := 30) ho
  refine E_fR fF_X12_102 rfl rfl ho hv dX12_init_230 ?_
  have ho := ob_uR (a := o) (b := 35) (v := (nx G + 21)) ho
  refine E_aload_n 0 dX12_init_233 rfl rfl rfl ?_
  refine E_bipush (v := 120) dX12_init_234 (by decide) ?_
  have hv := ob_nx ho
  refine E_newa (atype := .int) (ty := .int) (t := 0) (N := 120) tm_103 rfl (Or.inl ⟨rfl, rfl⟩) (by decide) (by decide) (by decide) dX12_init_236 ?_
  have ha := ar_new (t := 0) (n := 120) hv
  have ho := ob_uN (kd := 100 + 0) (n := 120) ho
  refine E_fR fF_X12_105 rfl rfl ho hv dX12_init_238 ?_
  have ho := ob_uR (a := o) (b := 36) (v := (nx G + 22)) ho
  refine E_aload_n 0 dX12_init_241 rfl rfl rfl ?_
  refine E_ldc (v := 175000) tm_1310 dX12_init_242 ?_
  have hv := ob_nx ho
  refine E_newa (atype := .int) (ty := .int) (t := 0) (N := 175000) tm_103 rfl (Or.inl ⟨rfl, rfl⟩) (by decide) (by decide) (by decide) dX12_init_244 ?_
  have ha := ar_new (t := 0) (n := 175000) hv
  have ho := ob_uN (kd := 100 + 0) (n := 175000) ho
  refine E_fR fF_X12_109 rfl rfl ho hv dX12_init_246 ?_
  have ho := ob_uR (a := o) (b := 39) (v := (nx G + 23)) ho
  refine E_aload_n 0 dX12_init_249 rfl rfl rfl ?_
  refine E_ldc (v := 175000) tm_1310 dX12_init_250 ?_
  have hv := ob_nx ho
  refine E_newa (atype := .int) (ty := .int) (t := 0) (N := 175000) tm_103 rfl (Or.inl ⟨rfl, rfl⟩) (by decide) (by decide) (by decide) dX12_init_252 ?_
  have ha := ar_new (t := 0) (n := 175000) hv
  have ho := ob_uN (kd := 100 + 0) (n := 175000) ho
  refine E_fR fF_X12_112 rfl rfl ho hv dX12_init_254 ?_
  have ho := ob_uR (a := o) (b := 40) (v := (nx G + 24)) ho
  refine E_aload_n 0 dX12_init_257 rfl rfl rfl ?_
  refine E_ldc (v := 175000) tm_1310 dX12_init_258 ?_
  have hv := ob_nx ho
  refine E_newa (atype := .int) (ty := .int) (t := 0) (N := 175000) tm_103 rfl (Or.inl ⟨rfl, rfl⟩) (by decide) (by decide) (by decide) dX12_init_260 ?_
  have ha := ar_new (t := 0) (n := 175000) hv
  have ho := ob_uN (kd := 100 + 0) (n := 175000) ho
  refine E_fR fF_X12_115 rfl rfl ho hv dX12_init_262 ?_
  have ho := ob_uR (a := o) (b := 41) (v := (nx G + 25)) ho
  refine E_aload_n 0 dX12_init_265 rfl rfl rfl ?_
  refine E_sipush (v := 200) dX12_init_266 (by decide) ?_
  have hv := ob_nx ho
  refine E_newa (atype := .int) (ty := .int) (t := 0) (N := 200) tm_103 rfl (Or.inl ⟨rfl, rfl⟩) (by decide) (by decide) (by decide) dX12_init_269 ?_
  have ha := ar_new (t := 0) (n := 200) hv
  have ho := ob_uN (kd := 100 + 0) (n := 200) ho
  refine E_fR fF_X12_118 rfl rfl ho hv dX12_init_271 ?_
  have ho := ob_uR (a := o) (b := 42) (v := (nx G + 26)) ho
  refine E_aload_n 0 dX12_init_274 rfl rfl rfl ?_
  refine E_sipush (v := 4099) dX12_init_275 (by decide) ?_
  have hv := ob_nx ho
  refine E_newa (atype := .int) (ty := .int) (t := 0) (N := 4099) tm_103 rfl (Or.inl ⟨rfl, rfl⟩) (by decide) (by decide) (by decide) dX12_init_278 ?_
  have ha := ar_new (t := 0) (n := 4099) hv
  have ho := ob_uN (kd := 100 + 0) (n := 4099) ho
  refine E_fR fF_X12_121 rfl rfl ho hv dX12_init_280 ?_
  have ho := ob_uR (a := o) (b := 44) (v := (nx G + 27)) ho
  refine E_aload_n 0 dX12_init_283 rfl rfl rfl ?_
  refine E_ldc (v := 60000) tm_1311 dX12_init_284 ?_
  have hv := ob_nx ho
  refine E_newa (atype := .int) (ty := .int) (t := 0) (N := 60000) tm_103 rfl (Or.inl ⟨rfl, rfl⟩) (by decide) (by decide) (by decide) dX12_init_286 ?_
  have ha := ar_new (t := 0) (n := 60000) hv
  have ho := ob_uN (kd := 100 + 0) (n := 60000) ho
  refine E_fR fF_X12_125 rfl rfl ho hv dX12_init_288 ?_
  have ho := ob_uR (a := o) (b := 45) (v := (nx G + 28)) ho
  refine E_aload_n 0 dX12_init_291 rfl rfl rfl ?_
  refine E_ldc (v := 60000) tm_1311 dX12_init_292 ?_
  have hv := ob_nx ho
  refine E_newa (atype := .int) (ty := .int) (t := 0) (N := 60000) tm_103 rfl (Or.inl ⟨rfl, rfl⟩) (by decide) (by decide) (by decide) dX12_init_294 ?_
  have ha := ar_new (t := 0) (n := 60000) hv
  have ho := ob_uN (kd := 100 + 0) (n := 60000) ho
  refine E_fR fF_X12_128 rfl rfl ho hv dX12_init_296 ?_
  have ho := ob_uR (a := o) (b := 46) (v := (nx G + 29)) ho
  refine E_aload_n 0 dX12_init_299 rfl rfl rfl ?_
  refine E_ldc (v := 60000) tm_1311 dX12_init_300 ?_
  have hv := ob_nx ho
  refine E_newa (atype := .int) (ty := .int) (t := 0) (N := 60000) tm_103 rfl (Or.inl ⟨rfl, rfl⟩) (by decide) (by decide) (by decide) dX12_init_302 ?_
  have ha := ar_new (t := 0) (n := 60000) hv
  have ho := ob_uN (kd := 100 + 0) (n := 60000) ho
  refine E_fR fF_X12_131 rfl rfl ho hv dX12_init_304 ?_
  have ho := ob_uR (a := o) (b := 47) (v := (nx G + 30)) ho
  refine E_aload_n 0 dX12_init_307 rfl rfl rfl ?_
  refine E_ldc (v := 60000) tm_1311 dX12_init_308 ?_
  have hv := ob_nx ho
  refine E_newa (atype := .int) (ty := .int) (t := 0) (N := 60000) tm_103 rfl (Or.inl ⟨rfl, rfl⟩) (by decide) (by decide) (by decide) dX12_init_310 ?_
  have ha := ar_new (t := 0) (n := 60000) hv
  have ho := ob_uN (kd := 100 + 0) (n := 60000) ho
  refine E_fR fF_X12_134 rfl rfl ho hv dX12_init_312 ?_
  have ho := ob_uR (a := o) (b := 48) (v := (nx G + 31)) ho
  refine E_aload_n 0 dX12_init_315 rfl rfl rfl ?_
  refine E_sipush (v := 7776) dX12_init_316 (by decide) ?_
  have hv := ob_nx ho
  refine E_newa (atype := .int) (ty := .int) (t := 0) (N := 7776) tm_103 rfl (Or.inl ⟨rfl, rfl⟩) (by decide) (by decide) (by decide) dX12_init_319 ?_
  have ha := ar_new (t := 0) (n := 7776) hv
  have ho := ob_uN (kd := 100 + 0) (n := 7776) ho
  refine E_fR fF_X12_137 rfl rfl ho hv dX12_init_321 ?_
  have ho := ob_uR (a := o) (b := 49) (v := (nx G + 32)) ho
  refine E_aload_n 0 dX12_init_324 rfl rfl rfl ?_
  refine E_sipush (v := 300) dX12_init_325 (by decide) ?_
  have hv := ob_nx ho
  refine E_newa (atype := .int) (ty := .int) (t := 0) (N := 300) tm_103 rfl (Or.inl ⟨rfl, rfl⟩) (by decide) (by decide) (by decide) dX12_init_328 ?_
  have ha := ar_new (t := 0) (n := 300) hv
  have ho := ob_uN (kd := 100 + 0) (n := 300) ho
  refine E_fR fF_X12_140 rfl rfl ho hv dX12_init_330 ?_
  have ho := ob_uR (a := o) (b := 51) (v := (nx G + 33)) ho
  refine E_aload_n 0 dX12_init_333 rfl rfl rfl ?_
  refine E_bipush (v := 40) dX12_init_334 (by decide) ?_
  have hv := ob_nx ho
  refine E_newa (atype := .boolean) (ty := .boolean) (t := 3) (N := 40) tm_152 rfl (Or.inr (Or.inr (Or.inr ⟨rfl, rfl⟩))) (by decide) (by decide) (by decide) dX12_init_336 ?_
  have ha := ar_new (t := 3) (n := 40) hv
  have ho := ob_uN (kd := 100 + 3) (n := 40) ho
  refine E_fR fF_X12_143 rfl rfl ho hv dX12_init_338 ?_
  have ho := ob_uR (a := o) (b := 55) (v := (nx G + 34)) ho
  refine E_aload_n 0 dX12_init_341 rfl rfl rfl ?_
  refine E_bipush (v := 40) dX12_init_342 (by decide) ?_
  have hv := ob_nx ho
  refine E_newa (atype := .boolean) (ty := .boolean) (t := 3) (N := 40) tm_152 rfl (Or.inr (Or.inr (Or.inr ⟨rfl, rfl⟩))) (by decide) (by decide) (by decide) dX12_init_344 ?_
  have ha := ar_new (t := 3) (n := 40) hv
  have ho := ob_uN (kd := 100 + 3) (n := 40) ho
  refine E_fR fF_X12_146 rfl rfl ho hv dX12_init_346 ?_
  have ho := ob_uR (a := o) (b := 56) (v := (nx G + 35)) ho
  refine E_aload_n 0 dX12_init_349 rfl rfl rfl ?_
  refine E_iconst (v := 4) dX12_init_350 (by decide) ?_
  refine E_pI fP_X12_149 rfl ho dX12_init_351 ?_
  have ho := ob_uI (a := o) (k := 27) (v := 4) ho
  refine E_aload_n 0 dX12_init_354 rfl rfl rfl ?_
  refine E_iconst (v := 1) dX12_init_355 (by decide) ?_
  refine E_pZ fP_X12_152 rfl ho (Or.inr rfl) dX12_init_356 ?_
  have ho := ob_uI (a := o) (k := 15) (v := 1) ho
  exact E_vret rfl dX12_init_359 ⟨rfl, hB⟩

set_option maxRecDepth 20000 in
set_option maxHeartbeats 2000000 in
theorem kX8_hasPlainWord_0 {K : KT} {G : St} {Q : Int32 → St → Prop} {t0 : Nat} {y1 : Int64} (hL : Lay G.2.2) (ht0 : t0 = 59 ∨ t0 = 62)
    (hB : EvI K mX8_hasPlainWord 0 2 [(0, .ref t0), (1, .long y1), (3, .int 0)] [] G Q) :
    EvI K mX8_hasPlainWord 0 0 [(0, .ref t0), (1, .long y1)] [] G Q := by
  refine E_iconst (v := 0) dX8_hasPlainWord_0 (by decide) ?_
  refine E_istore_n (lv' := [(0, .ref t0), (1, .long y1), (3, .int 0)]) dX8_hasPlainWord_1 rfl (by decide) rfl ?_
  exact EvI.tr hB rfl

set_option maxRecDepth 20000 in
set_option maxHeartbeats 2000000 in
theorem kX8_hasPlainWord_2 {K : KT} {G : St} {Q : Int32 → St → Prop} {t0 : Nat} {y1 : Int64} {x3 : Int32} (hL : Lay G.2.2) (ht0 : t0 = 59 ∨ t0 = 62)
    (hB : (((sI G t0 2) ≤ x3 → Q 0 G) ∧ (¬ (sI G t0 2) ≤ x3 → vp_in x3 4 ∧ ((¬ (sI G (t0 + 1) (Int32.toNatClampNeg x3)) = 0 → EvI K mX8_hasPlainWord 0 32 [(0, .ref t0), (1, .long y1), (3, .int x3)] [] G Q) ∧ ((sI G (t0 + 1) (Int32.toNatClampNeg x3)) = 0 → vp_in x3 4 ∧ ((¬ (sL G (t0 + 2) (Int32.toNatClampNeg x3)) = y1 → EvI K mX8_hasPlainWord 0 32 [(0, .ref t0), (1, .long y1), (3, .int x3)] [] G Q) ∧ ((sL G (t0 + 2) (Int32.toNatClampNeg x3)) = y1 → Q 1 G))))))) :
    EvI K mX8_hasPlainWord 0 2 [(0, .ref t0), (1, .long y1), (3, .int x3)] [] G Q := by
  refine E_iload_n 2 dX8_hasPlainWord_2 rfl rfl ?_
  refine E_aload_n 0 dX8_hasPlainWord_3 rfl rfl rfl ?_
  refine E_gI (v := sI G t0 2) fG_X8_17 rfl (ltO hL ht0) rfl dX8_hasPlainWord_4 ?_
  refine E_icmp_ge (tgt := 38) dX8_hasPlainWord_7 (by decide) (fun c => ?_) (fun c => ?_)
  · have hB := hB.1 c
    refine E_iconst (v := 0) dX8_hasPlainWord_38 (by decide) ?_
    exact E_zret rfl (Or.inl rfl) dX8_hasPlainWord_39 ⟨_, rfl, rfl, hB⟩
  · have hB := hB.2 c
    refine E_aload_n 0 dX8_hasPlainWord_10 rfl rfl rfl ?_
    refine E_gR (j := t0 + 1) fG_X8_9 rfl (ltO hL ht0) (ltR0 hL ht0) (Nat.succ_pos _) dX8_hasPlainWord_11 ?_
    refine E_iload_n 2 dX8_hasPlainWord_14 rfl rfl ?_
    obtain ⟨qq1, hB⟩ := hB
    refine E_aI (p := Int32.toNatClampNeg x3) (v := sI G (t0 + 1) (Int32.toNatClampNeg x3)) (ltA0 hL ht0) qq1 rfl rfl dX8_hasPlainWord_15 ?_
    refine E_if_ne (tgt := 32) dX8_hasPlainWord_16 (by decide) (fun c => ?_) (fun c => ?_)
    · have hB := hB.1 c
      exact EvI.tr hB rfl
    · have hB := hB.2 c
      refine E_aload_n 0 dX8_hasPlainWord_19 rfl rfl rfl ?_
      refine E_gR (j := t0 + 2) fG_X8_13 rfl (ltO hL ht0) (ltR1 hL ht0) (Nat.succ_pos _) dX8_hasPlainWord_20 ?_
      refine E_iload_n 2 dX8_hasPlainWord_23 rfl rfl ?_
      obtain ⟨qq2, hB⟩ := hB
      refine E_aL (p := Int32.toNatClampNeg x3) (v := sL G (t0 + 2) (Int32.toNatClampNeg x3)) (ltA1 hL ht0) qq2 rfl rfl dX8_hasPlainWord_24 ?_
      refine E_lload_n 1 dX8_hasPlainWord_25 rfl rfl ?_
      refine E_lcmp dX8_hasPlainWord_26 ?_
      refine E_if_ne (tgt := 32) dX8_hasPlainWord_27 (by decide) (fun c => ?_) (fun c => ?_)
      · have hB := hB.1 ((fun q => c ((lgc_eq (sL G (t0 + 2) (Int32.toNatClampNeg x3)) y1).mpr q)))
        exact EvI.tr hB rfl
      · have hB := hB.2 ((lgc_eq (sL G (t0 + 2) (Int32.toNatClampNeg x3)) y1).mp c)
        refine E_iconst (v := 1) dX8_hasPlainWord_30 (by decide) ?_
        exact E_zret rfl (Or.inr rfl) dX8_hasPlainWord_31 ⟨_, rfl, rfl, hB⟩

set_option maxRecDepth 20000 in
set_option maxHeartbeats 2000000 in
theorem kX8_hasPlainWord_32 {K : KT} {G : St} {Q : Int32 → St → Prop} {t0 : Nat} {y1 : Int64} {x3 : Int32} (hL : Lay G.2.2) (ht0 : t0 = 59 ∨ t0 = 62)
    (hB : EvI K mX8_hasPlainWord 0 2 [(0, .ref t0), (1, .long y1), (3, .int (x3 + 1))] [] G Q) :
    EvI K mX8_hasPlainWord 0 32 [(0, .ref t0), (1, .long y1), (3, .int x3)] [] G Q := by
  refine E_iinc (v := x3 + 1) (lv' := [(0, .ref t0), (1, .long y1), (3, .int (x3 + 1))]) 2 dX8_hasPlainWord_32 rfl rfl (by decide) rfl ?_
  refine E_goto (tgt := 2) dX8_hasPlainWord_35 (by decide) ?_
  exact EvI.tr hB rfl

set_option maxRecDepth 20000 in
set_option maxHeartbeats 2000000 in
theorem kX8_clear_0 {K : KT} {G : St} {Q : St → Prop} {t0 : Nat} (hL : Lay G.2.2) (ht0 : t0 = 59 ∨ t0 = 62)
    (hB : Q (uI G t0 2 0)) :
    EvV K mX8_clear 0 0 [(0, .ref t0)] [] G Q := by
  refine E_aload_n 0 dX8_clear_0 rfl rfl rfl ?_
  refine E_iconst (v := 0) dX8_clear_1 (by decide) ?_
  refine E_pI fP_X8_17 rfl (ltO hL ht0) dX8_clear_2 ?_
  exact E_vret rfl dX8_clear_5 ⟨rfl, rfl, hB⟩

set_option maxRecDepth 20000 in
set_option maxHeartbeats 2000000 in
theorem kX8_add_0 {K : KT} {G : St} {Q : St → Prop} {t0 : Nat} {x1 : Int32} {y2 : Int64} (hL : Lay G.2.2) (ht0 : t0 = 59 ∨ t0 = 62)
    (hB : ((4 ≤ (sI G t0 2) → Q G) ∧ (¬ 4 ≤ (sI G t0 2) → vp_in (sI G t0 2) 4 ∧ vp_in (sI (uI G (t0 + 1) (Int32.toNatClampNeg (sI G t0 2)) x1) t0 2) 4 ∧ ∀ G3 : St, G3 = (uI (uL (uI G (t0 + 1) (Int32.toNatClampNeg (sI G t0 2)) x1) (t0 + 2) (Int32.toNatClampNeg (sI (uI G (t0 + 1) (Int32.toNatClampNeg (sI G t0 2)) x1) t0 2)) y2) t0 2 ((sI (uI G (t0 + 1) (Int32.toNatClampNeg (sI G t0 2)) x1) t0 2) + 1)) → Q G3))) :
    EvV K mX8_add 0 0 [(0, .ref t0), (1, .int x1), (2, .long y2)] [] G Q := by
  refine E_aload_n 0 dX8_add_0 rfl rfl rfl ?_
  refine E_gI (v := sI G t0 2) fG_X8_17 rfl (ltO hL ht0) rfl dX8_add_1 ?_
  refine E_iconst (v := 4) dX8_add_4 (by decide) ?_
  refine E_icmp_ge (tgt := 38) dX8_add_5 (by decide) (fun c => ?_) (fun c => ?_)
  · have hB := hB.1 c
    exact E_vret rfl dX8_add_38 ⟨rfl, rfl, hB⟩
  · have hB := hB.2 c
    refine E_aload_n 0 dX8_add_8 rfl rfl rfl ?_
    refine E_gR (j := t0 + 1) fG_X8_9 rfl (ltO hL ht0) (ltR0 hL ht0) (Nat.succ_pos _) dX8_add_9 ?_
    refine E_aload_n 0 dX8_add_12 rfl rfl rfl ?_
    refine E_gI (v := sI G t0 2) fG_X8_17 rfl (ltO hL ht0) rfl dX8_add_13 ?_
    refine E_iload_n 1 dX8_add_16 rfl rfl ?_
    obtain ⟨qq1, hB⟩ := hB
    refine E_sI (p := Int32.toNatClampNeg (sI G t0 2)) (ltA0 hL ht0) qq1 rfl dX8_add_17 ?_
    refine E_aload_n 0 dX8_add_18 rfl rfl rfl ?_
    refine E_gR (j := t0 + 2) fG_X8_13 rfl (ltO hL ht0) (ltR1 hL ht0) (Nat.succ_pos _) dX8_add_19 ?_
    refine E_aload_n 0 dX8_add_22 rfl rfl rfl ?_
    refine E_gI (v := sI (uI G (t0 + 1) (Int32.toNatClampNeg (sI G t0 2)) x1) t0 2) fG_X8_17 rfl (ltO hL ht0) rfl dX8_add_23 ?_
    refine E_lload_n 2 dX8_add_26 rfl rfl ?_
    obtain ⟨qq2, hB⟩ := hB
    refine E_sL (p := Int32.toNatClampNeg (sI (uI G (t0 + 1) (Int32.toNatClampNeg (sI G t0 2)) x1) t0 2)) (ltA1 hL ht0) qq2 rfl dX8_add_27 ?_
    refine E_aload_n 0 dX8_add_28 rfl rfl rfl ?_
    refine E_dup dX8_add_29 rfl ?_
    refine E_gI (v := sI (uI G (t0 + 1) (Int32.toNatClampNeg (sI G t0 2)) x1) t0 2) fG_X8_17 rfl (ltO hL ht0) rfl dX8_add_30 ?_
    refine E_iconst (v := 1) dX8_add_33 (by decide) ?_
    refine E_iadd dX8_add_34 ?_
    refine E_pI fP_X8_17 rfl (ltO hL ht0) dX8_add_35 ?_
    refine E_nmG (fun G3 eG3 => ?_)
    have hB := hB G3 eG3
    have hL3 : Lay G3.2.2 := by rw [eG3]; exact hL
    have hE3 : G3.2.2 = G.2.2 := by rw [eG3]; exact rfl
    exact E_vret rfl dX8_add_38 ⟨rfl, hE3, hB⟩

set_option maxRecDepth 20000 in
set_option maxHeartbeats 2000000 in
theorem kX8_same_0 {K : KT} {G : St} {Q : Int32 → St → Prop} {t0 : Nat} {t1 : Nat} (hL : Lay G.2.2) (ht0 : t0 = 59 ∨ t0 = 62) (ht1 : t1 = 59 ∨ t1 = 62)
    (hB : (((sI G t1 2) = (sI G t0 2) → EvI K mX8_same 0 19 [(0, .ref t0), (1, .ref t1), (2, .int 0)] [] G Q) ∧ (¬ (sI G t1 2) = (sI G t0 2) → Q 0 G))) :
    EvI K mX8_same 0 0 [(0, .ref t0), (1, .ref t1)] [] G Q := by
  refine E_aload_n 1 dX8_same_0 rfl rfl rfl ?_
  refine E_ifnull dX8_same_1 ?_
  refine E_aload_n 1 dX8_same_4 rfl rfl rfl ?_
  refine E_gI (v := sI G t1 2) fG_X8_17 rfl (ltO hL ht1) rfl dX8_same_5 ?_
  refine E_aload_n 0 dX8_same_8 rfl rfl rfl ?_
  refine E_gI (v := sI G t0 2) fG_X8_17 rfl (ltO hL ht0) rfl dX8_same_9 ?_
  refine E_icmp_eq (tgt := 17) dX8_same_12 (by decide) (fun c => ?_) (fun c => ?_)
  · have hB := hB.1 c
    refine E_iconst (v := 0) dX8_same_17 (by decide) ?_
    refine E_istore_n (lv' := [(0, .ref t0), (1, .ref t1), (2, .int 0)]) dX8_same_18 rfl (by decide) rfl ?_
    exact EvI.tr hB rfl
  · have hB := hB.2 c
    refine E_iconst (v := 0) dX8_same_15 (by decide) ?_
    exact E_zret rfl (Or.inl rfl) dX8_same_16 ⟨_, rfl, rfl, hB⟩

set_option maxRecDepth 20000 in
set_option maxHeartbeats 2000000 in
theorem kX8_same_19 {K : KT} {G : St} {Q : Int32 → St → Prop} {t0 : Nat} {t1 : Nat} {x2 : Int32} (hL : Lay G.2.2) (ht0 : t0 = 59 ∨ t0 = 62) (ht1 : t1 = 59 ∨ t1 = 62)
    (hB : (((sI G t0 2) ≤ x2 → Q 1 G) ∧ (¬ (sI G t0 2) ≤ x2 → vp_in x2 4 ∧ vp_in x2 4 ∧ ((¬ (sI G (t1 + 1) (Int32.toNatClampNeg x2)) = (sI G (t0 + 1) (Int32.toNatClampNeg x2)) → Q 0 G) ∧ ((sI G (t1 + 1) (Int32.toNatClampNeg x2)) = (sI G (t0 + 1) (Int32.toNatClampNeg x2)) → vp_in x2 4 ∧ vp_in x2 4 ∧ (((sL G (t1 + 2) (Int32.toNatClampNeg x2)) = (sL G (t0 + 2) (Int32.toNatClampNeg x2)) → EvI K mX8_same 0 19 [(0, .ref t0), (1, .ref t1), (2, .int (x2 + 1))] [] G Q) ∧ (¬ (sL G (t1 + 2) (Int32.toNatClampNeg x2)) = (sL G (t0 + 2) (Int32.toNatClampNeg x2)) → Q 0 G))))))) :
    EvI K mX8_same 0 19 [(0, .ref t0), (1, .ref t1), (2, .int x2)] [] G Q := by
  refine E_iload_n 2 dX8_same_19 rfl rfl ?_
  refine E_aload_n 0 dX8_same_20 rfl rfl rfl ?_
  refine E_gI (v := sI G t0 2) fG_X8_17 rfl (ltO hL ht0) rfl dX8_same_21 ?_
  refine E_icmp_ge (tgt := 66) dX8_same_24 (by decide) (fun c => ?_) (fun c => ?_)
  · have hB := hB.1 c
    refine E_iconst (v := 1) dX8_same_66 (by decide) ?_
    exact E_zret rfl (Or.inr rfl) dX8_same_67 ⟨_, rfl, rfl, hB⟩
  · have hB := hB.2 c
    refine E_aload_n 1 dX8_same_27 rfl rfl rfl ?_
    refine E_gR (j := t1 + 1) fG_X8_9 rfl (ltO hL ht1) (ltR0 hL ht1) (Nat.succ_pos _) dX8_same_28 ?_
    refine E_iload_n 2 dX8_same_31 rfl rfl ?_
    obtain ⟨qq1, hB⟩ := hB
    refine E_aI (p := Int32.toNatClampNeg x2) (v := sI G (t1 + 1) (Int32.toNatClampNeg x2)) (ltA0 hL ht1) qq1 rfl rfl dX8_same_32 ?_
    refine E_aload_n 0 dX8_same_33 rfl rfl rfl ?_
    refine E_gR (j := t0 + 1) fG_X8_9 rfl (ltO hL ht0) (ltR0 hL ht0) (Nat.succ_pos _) dX8_same_34 ?_
    refine E_iload_n 2 dX8_same_37 rfl rfl ?_
    obtain ⟨qq2, hB⟩ := hB
    refine E_aI (p := Int32.toNatClampNeg x2) (v := sI G (t0 + 1) (Int32.toNatClampNeg x2)) (ltA0 hL ht0) qq2 rfl rfl dX8_same_38 ?_
    refine E_icmp_ne (tgt := 58) dX8_same_39 (by decide) (fun c => ?_) (fun c => ?_)
    · have hB := hB.1 c
      refine E_iconst (v := 0) dX8_same_58 (by decide) ?_
      exact E_zret rfl (Or.inl rfl) dX8_same_59 ⟨_, rfl, rfl, hB⟩
    · have hB := hB.2 c
      refine E_aload_n 1 dX8_same_42 rfl rfl rfl ?_
      refine E_gR (j := t1 + 2) fG_X8_13 rfl (ltO hL ht1) (ltR1 hL ht1) (Nat.succ_pos _) dX8_same_43 ?_
      refine E_iload_n 2 dX8_same_46 rfl rfl ?_
      obtain ⟨qq3, hB⟩ := hB
      refine E_aL (p := Int32.toNatClampNeg x2) (v := sL G (t1 + 2) (Int32.toNatClampNeg x2)) (ltA1 hL ht1) qq3 rfl rfl dX8_same_47 ?_
      refine E_aload_n 0 dX8_same_48 rfl rfl rfl ?_
      refine E_gR (j := t0 + 2) fG_X8_13 rfl (ltO hL ht0) (ltR1 hL ht0) (Nat.succ_pos _) dX8_same_49 ?_
      refine E_iload_n 2 dX8_same_52 rfl rfl ?_
      obtain ⟨qq4, hB⟩ := hB
      refine E_aL (p := Int32.toNatClampNeg x2) (v := sL G (t0 + 2) (Int32.toNatClampNeg x2)) (ltA1 hL ht0) qq4 rfl rfl dX8_same_53 ?_
      refine E_lcmp dX8_same_54 ?_
      refine E_if_eq (tgt := 60) dX8_same_55 (by decide) (fun c => ?_) (fun c => ?_)
      · have hB := hB.1 ((lgc_eq (sL G (t1 + 2) (Int32.toNatClampNeg x2)) (sL G (t0 + 2) (Int32.toNatClampNeg x2))).mp c)
        refine E_iinc (v := x2 + 1) (lv' := [(0, .ref t0), (1, .ref t1), (2, .int (x2 + 1))]) 2 dX8_same_60 rfl rfl (by decide) rfl ?_
        refine E_goto (tgt := 19) dX8_same_63 (by decide) ?_
        exact EvI.tr hB rfl
      · have hB := hB.2 (fun q => c ((lgc_eq (sL G (t1 + 2) (Int32.toNatClampNeg x2)) (sL G (t0 + 2) (Int32.toNatClampNeg x2))).mpr q))
        refine E_iconst (v := 0) dX8_same_58 (by decide) ?_
        exact E_zret rfl (Or.inl rfl) dX8_same_59 ⟨_, rfl, rfl, hB⟩

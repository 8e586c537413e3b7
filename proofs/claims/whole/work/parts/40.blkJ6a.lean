set_option maxRecDepth 20000 in
set_option maxHeartbeats 2000000 in
theorem kJ6_bitCount_0f7a4_0 {K : KT} {G : St} {Q : Int32 → St → Prop} {x0 : Int32} (hL : Lay G.2.2) 
    (hB : ∀ v1 : Int32, v1 = (x0 - (((x0.toUInt32 >>> (Int32.toUInt32 1 &&& Int32.toUInt32 31)).toInt32) &&& 1431655765)) &&& 858993459 → ∀ v2 : Int32, v2 = ((x0 - (((x0.toUInt32 >>> (Int32.toUInt32 1 &&& Int32.toUInt32 31)).toInt32) &&& 1431655765)).toUInt32 >>> (Int32.toUInt32 2 &&& Int32.toUInt32 31)).toInt32 → ∀ v3 : Int32, v3 = (v1 + (v2 &&& 858993459)) + (((v1 + (v2 &&& 858993459)).toUInt32 >>> (Int32.toUInt32 4 &&& Int32.toUInt32 31)).toInt32) → ∀ v4 : Int32, v4 = (v3 &&& 252645135) + (((v3 &&& 252645135).toUInt32 >>> (Int32.toUInt32 8 &&& Int32.toUInt32 31)).toInt32) → Q ((v4 + ((v4.toUInt32 >>> (Int32.toUInt32 16 &&& Int32.toUInt32 31)).toInt32)) &&& 63) G) :
    EvI K mJ6_bitCount_0f7a4 0 0 [(0, .int x0)] [] G Q := by
  refine E_iload_n 0 dJ6_bitCount_0f7a4_0 rfl rfl ?_
  refine E_iload_n 0 dJ6_bitCount_0f7a4_1 rfl rfl ?_
  refine E_iconst (v := 1) dJ6_bitCount_0f7a4_2 (by decide) ?_
  refine E_iushr dJ6_bitCount_0f7a4_3 rfl ?_
  refine E_ldcw (v := 1431655765) tm_802 dJ6_bitCount_0f7a4_4 ?_
  refine E_iand dJ6_bitCount_0f7a4_7 ?_
  refine E_isub dJ6_bitCount_0f7a4_8 ?_
  refine E_istore_n (lv' := [(0, .int (x0 - (((x0.toUInt32 >>> (Int32.toUInt32 1 &&& Int32.toUInt32 31)).toInt32) &&& 1431655765)))]) dJ6_bitCount_0f7a4_9 rfl (by decide) rfl ?_
  refine E_iload_n 0 dJ6_bitCount_0f7a4_10 rfl rfl ?_
  refine E_ldcw (v := 858993459) tm_803 dJ6_bitCount_0f7a4_11 ?_
  refine E_iand dJ6_bitCount_0f7a4_14 ?_
  refine E_topi (fun v1 ev1 => ?_)
  have hB := hB v1 ev1
  refine E_iload_n 0 dJ6_bitCount_0f7a4_15 rfl rfl ?_
  refine E_iconst (v := 2) dJ6_bitCount_0f7a4_16 (by decide) ?_
  refine E_iushr dJ6_bitCount_0f7a4_17 rfl ?_
  refine E_topi (fun v2 ev2 => ?_)
  have hB := hB v2 ev2
  refine E_ldcw (v := 858993459) tm_803 dJ6_bitCount_0f7a4_18 ?_
  refine E_iand dJ6_bitCount_0f7a4_21 ?_
  refine E_iadd dJ6_bitCount_0f7a4_22 ?_
  refine E_istore_n (lv' := [(0, .int (v1 + (v2 &&& 858993459)))]) dJ6_bitCount_0f7a4_23 rfl (by decide) rfl ?_
  refine E_iload_n 0 dJ6_bitCount_0f7a4_24 rfl rfl ?_
  refine E_iload_n 0 dJ6_bitCount_0f7a4_25 rfl rfl ?_
  refine E_iconst (v := 4) dJ6_bitCount_0f7a4_26 (by decide) ?_
  refine E_iushr dJ6_bitCount_0f7a4_27 rfl ?_
  refine E_iadd dJ6_bitCount_0f7a4_28 ?_
  refine E_topi (fun v3 ev3 => ?_)
  have hB := hB v3 ev3
  refine E_ldcw (v := 252645135) tm_804 dJ6_bitCount_0f7a4_29 ?_
  refine E_iand dJ6_bitCount_0f7a4_32 ?_
  refine E_istore_n (lv' := [(0, .int (v3 &&& 252645135))]) dJ6_bitCount_0f7a4_33 rfl (by decide) rfl ?_
  refine E_iload_n 0 dJ6_bitCount_0f7a4_34 rfl rfl ?_
  refine E_iload_n 0 dJ6_bitCount_0f7a4_35 rfl rfl ?_
  refine E_bipush (v := 8) dJ6_bitCount_0f7a4_36 (by decide) ?_
  refine E_iushr dJ6_bitCount_0f7a4_38 rfl ?_
  refine E_iadd dJ6_bitCount_0f7a4_39 ?_
  refine E_topi (fun v4 ev4 => ?_)
  have hB := hB v4 ev4
  refine E_istore_n (lv' := [(0, .int v4)]) dJ6_bitCount_0f7a4_40 rfl (by decide) rfl ?_
  refine E_iload_n 0 dJ6_bitCount_0f7a4_41 rfl rfl ?_
  refine E_iload_n 0 dJ6_bitCount_0f7a4_42 rfl rfl ?_
  refine E_bipush (v := 16) dJ6_bitCount_0f7a4_43 (by decide) ?_
  refine E_iushr dJ6_bitCount_0f7a4_45 rfl ?_
  refine E_iadd dJ6_bitCount_0f7a4_46 ?_
  refine E_istore_n (lv' := [(0, .int (v4 + ((v4.toUInt32 >>> (Int32.toUInt32 16 &&& Int32.toUInt32 31)).toInt32)))]) dJ6_bitCount_0f7a4_47 rfl (by decide) rfl ?_
  refine E_iload_n 0 dJ6_bitCount_0f7a4_48 rfl rfl ?_
  refine E_bipush (v := 63) dJ6_bitCount_0f7a4_49 (by decide) ?_
  refine E_iand dJ6_bitCount_0f7a4_51 ?_
  exact E_iret rfl dJ6_bitCount_0f7a4_52 ⟨_, rfl, rfl, hB⟩

set_option maxRecDepth 20000 in
set_option maxHeartbeats 2000000 in
theorem kJ6_numberOfTrailingZeros_0f7a4_0 {K : KT} {G : St} {Q : Int32 → St → Prop} {x0 : Int32} (hL : Lay G.2.2) 
    (hB : ((0 < ((x0 ^^^ (-1)) &&& (x0 - 1)) → ((((x0 ^^^ (-1)) &&& (x0 - 1)) ≤ 65536 → EvI K mJ6_numberOfTrailingZeros_0f7a4 0 34 [(0, .int ((x0 ^^^ (-1)) &&& (x0 - 1))), (1, .int 1)] [] G Q) ∧ (¬ ((x0 ^^^ (-1)) &&& (x0 - 1)) ≤ 65536 → ∀ v1 : Int32, v1 = (((x0 ^^^ (-1)) &&& (x0 - 1)).toUInt32 >>> (Int32.toUInt32 16 &&& Int32.toUInt32 31)).toInt32 → EvI K mJ6_numberOfTrailingZeros_0f7a4 0 34 [(0, .int v1), (1, .int (1 + 16))] [] G Q))) ∧ (¬ 0 < ((x0 ^^^ (-1)) &&& (x0 - 1)) → Q (((x0 ^^^ (-1)) &&& (x0 - 1)) &&& 32) G))) :
    EvI K mJ6_numberOfTrailingZeros_0f7a4 0 0 [(0, .int x0)] [] G Q := by
  refine E_iload_n 0 dJ6_numberOfTrailingZeros_0f7a4_0 rfl rfl ?_
  refine E_iconst (v := (-1)) dJ6_numberOfTrailingZeros_0f7a4_1 (by decide) ?_
  refine E_ixor dJ6_numberOfTrailingZeros_0f7a4_2 ?_
  refine E_iload_n 0 dJ6_numberOfTrailingZeros_0f7a4_3 rfl rfl ?_
  refine E_iconst (v := 1) dJ6_numberOfTrailingZeros_0f7a4_4 (by decide) ?_
  refine E_isub dJ6_numberOfTrailingZeros_0f7a4_5 ?_
  refine E_iand dJ6_numberOfTrailingZeros_0f7a4_6 ?_
  refine E_istore_n (lv' := [(0, .int ((x0 ^^^ (-1)) &&& (x0 - 1)))]) dJ6_numberOfTrailingZeros_0f7a4_7 rfl (by decide) rfl ?_
  refine E_iload_n 0 dJ6_numberOfTrailingZeros_0f7a4_8 rfl rfl ?_
  refine E_if_gt (tgt := 17) dJ6_numberOfTrailingZeros_0f7a4_9 (by decide) (fun c => ?_) (fun c => ?_)
  · have hB := hB.1 c
    refine E_iconst (v := 1) dJ6_numberOfTrailingZeros_0f7a4_17 (by decide) ?_
    refine E_istore_n (lv' := [(0, .int ((x0 ^^^ (-1)) &&& (x0 - 1))), (1, .int 1)]) dJ6_numberOfTrailingZeros_0f7a4_18 rfl (by decide) rfl ?_
    refine E_iload_n 0 dJ6_numberOfTrailingZeros_0f7a4_19 rfl rfl ?_
    refine E_ldcw (v := 65536) tm_808 dJ6_numberOfTrailingZeros_0f7a4_20 ?_
    refine E_icmp_le (tgt := 34) dJ6_numberOfTrailingZeros_0f7a4_23 (by decide) (fun c => ?_) (fun c => ?_)
    · have hB := hB.1 c
      exact EvI.tr hB rfl
    · have hB := hB.2 c
      refine E_iinc (v := 1 + 16) (lv' := [(0, .int ((x0 ^^^ (-1)) &&& (x0 - 1))), (1, .int (1 + 16))]) 1 dJ6_numberOfTrailingZeros_0f7a4_26 rfl rfl (by decide) rfl ?_
      refine E_iload_n 0 dJ6_numberOfTrailingZeros_0f7a4_29 rfl rfl ?_
      refine E_bipush (v := 16) dJ6_numberOfTrailingZeros_0f7a4_30 (by decide) ?_
      refine E_iushr dJ6_numberOfTrailingZeros_0f7a4_32 rfl ?_
      refine E_topi (fun v1 ev1 => ?_)
      have hB := hB v1 ev1
      refine E_istore_n (lv' := [(0, .int v1), (1, .int (1 + 16))]) dJ6_numberOfTrailingZeros_0f7a4_33 rfl (by decide) rfl ?_
      exact EvI.tr hB rfl
  · have hB := hB.2 c
    refine E_iload_n 0 dJ6_numberOfTrailingZeros_0f7a4_12 rfl rfl ?_
    refine E_bipush (v := 32) dJ6_numberOfTrailingZeros_0f7a4_13 (by decide) ?_
    refine E_iand dJ6_numberOfTrailingZeros_0f7a4_15 ?_
    exact E_iret rfl dJ6_numberOfTrailingZeros_0f7a4_16 ⟨_, rfl, rfl, hB⟩

set_option maxRecDepth 20000 in
set_option maxHeartbeats 2000000 in
theorem kJ6_numberOfTrailingZeros_0f7a4_34 {K : KT} {G : St} {Q : Int32 → St → Prop} {x0 : Int32} {x1 : Int32} (hL : Lay G.2.2) 
    (hB : ((x0 ≤ 256 → EvI K mJ6_numberOfTrailingZeros_0f7a4 0 49 [(0, .int x0), (1, .int x1)] [] G Q) ∧ (¬ x0 ≤ 256 → EvI K mJ6_numberOfTrailingZeros_0f7a4 0 49 [(0, .int ((x0.toUInt32 >>> (Int32.toUInt32 8 &&& Int32.toUInt32 31)).toInt32)), (1, .int (x1 + 8))] [] G Q))) :
    EvI K mJ6_numberOfTrailingZeros_0f7a4 0 34 [(0, .int x0), (1, .int x1)] [] G Q := by
  refine E_iload_n 0 dJ6_numberOfTrailingZeros_0f7a4_34 rfl rfl ?_
  refine E_sipush (v := 256) dJ6_numberOfTrailingZeros_0f7a4_35 (by decide) ?_
  refine E_icmp_le (tgt := 49) dJ6_numberOfTrailingZeros_0f7a4_38 (by decide) (fun c => ?_) (fun c => ?_)
  · have hB := hB.1 c
    exact EvI.tr hB rfl
  · have hB := hB.2 c
    refine E_iinc (v := x1 + 8) (lv' := [(0, .int x0), (1, .int (x1 + 8))]) 1 dJ6_numberOfTrailingZeros_0f7a4_41 rfl rfl (by decide) rfl ?_
    refine E_iload_n 0 dJ6_numberOfTrailingZeros_0f7a4_44 rfl rfl ?_
    refine E_bipush (v := 8) dJ6_numberOfTrailingZeros_0f7a4_45 (by decide) ?_
    refine E_iushr dJ6_numberOfTrailingZeros_0f7a4_47 rfl ?_
    refine E_istore_n (lv' := [(0, .int ((x0.toUInt32 >>> (Int32.toUInt32 8 &&& Int32.toUInt32 31)).toInt32)), (1, .int (x1 + 8))]) dJ6_numberOfTrailingZeros_0f7a4_48 rfl (by decide) rfl ?_
    exact EvI.tr hB rfl

set_option maxRecDepth 20000 in
set_option maxHeartbeats 2000000 in
theorem kJ6_numberOfTrailingZeros_0f7a4_49 {K : KT} {G : St} {Q : Int32 → St → Prop} {x0 : Int32} {x1 : Int32} (hL : Lay G.2.2) 
    (hB : ((x0 ≤ 16 → EvI K mJ6_numberOfTrailingZeros_0f7a4 0 62 [(0, .int x0), (1, .int x1)] [] G Q) ∧ (¬ x0 ≤ 16 → EvI K mJ6_numberOfTrailingZeros_0f7a4 0 62 [(0, .int ((x0.toUInt32 >>> (Int32.toUInt32 4 &&& Int32.toUInt32 31)).toInt32)), (1, .int (x1 + 4))] [] G Q))) :
    EvI K mJ6_numberOfTrailingZeros_0f7a4 0 49 [(0, .int x0), (1, .int x1)] [] G Q := by
  refine E_iload_n 0 dJ6_numberOfTrailingZeros_0f7a4_49 rfl rfl ?_
  refine E_bipush (v := 16) dJ6_numberOfTrailingZeros_0f7a4_50 (by decide) ?_
  refine E_icmp_le (tgt := 62) dJ6_numberOfTrailingZeros_0f7a4_52 (by decide) (fun c => ?_) (fun c => ?_)
  · have hB := hB.1 c
    exact EvI.tr hB rfl
  · have hB := hB.2 c
    refine E_iinc (v := x1 + 4) (lv' := [(0, .int x0), (1, .int (x1 + 4))]) 1 dJ6_numberOfTrailingZeros_0f7a4_55 rfl rfl (by decide) rfl ?_
    refine E_iload_n 0 dJ6_numberOfTrailingZeros_0f7a4_58 rfl rfl ?_
    refine E_iconst (v := 4) dJ6_numberOfTrailingZeros_0f7a4_59 (by decide) ?_
    refine E_iushr dJ6_numberOfTrailingZeros_0f7a4_60 rfl ?_
    refine E_istore_n (lv' := [(0, .int ((x0.toUInt32 >>> (Int32.toUInt32 4 &&& Int32.toUInt32 31)).toInt32)), (1, .int (x1 + 4))]) dJ6_numberOfTrailingZeros_0f7a4_61 rfl (by decide) rfl ?_
    exact EvI.tr hB rfl

set_option maxRecDepth 20000 in
set_option maxHeartbeats 2000000 in
theorem kJ6_numberOfTrailingZeros_0f7a4_62 {K : KT} {G : St} {Q : Int32 → St → Prop} {x0 : Int32} {x1 : Int32} (hL : Lay G.2.2) 
    (hB : ((x0 ≤ 4 → EvI K mJ6_numberOfTrailingZeros_0f7a4 0 74 [(0, .int x0), (1, .int x1)] [] G Q) ∧ (¬ x0 ≤ 4 → EvI K mJ6_numberOfTrailingZeros_0f7a4 0 74 [(0, .int ((x0.toUInt32 >>> (Int32.toUInt32 2 &&& Int32.toUInt32 31)).toInt32)), (1, .int (x1 + 2))] [] G Q))) :
    EvI K mJ6_numberOfTrailingZeros_0f7a4 0 62 [(0, .int x0), (1, .int x1)] [] G Q := by
  refine E_iload_n 0 dJ6_numberOfTrailingZeros_0f7a4_62 rfl rfl ?_
  refine E_iconst (v := 4) dJ6_numberOfTrailingZeros_0f7a4_63 (by decide) ?_
  refine E_icmp_le (tgt := 74) dJ6_numberOfTrailingZeros_0f7a4_64 (by decide) (fun c => ?_) (fun c => ?_)
  · have hB := hB.1 c
    exact EvI.tr hB rfl
  · have hB := hB.2 c
    refine E_iinc (v := x1 + 2) (lv' := [(0, .int x0), (1, .int (x1 + 2))]) 1 dJ6_numberOfTrailingZeros_0f7a4_67 rfl rfl (by decide) rfl ?_
    refine E_iload_n 0 dJ6_numberOfTrailingZeros_0f7a4_70 rfl rfl ?_
    refine E_iconst (v := 2) dJ6_numberOfTrailingZeros_0f7a4_71 (by decide) ?_
    refine E_iushr dJ6_numberOfTrailingZeros_0f7a4_72 rfl ?_
    refine E_istore_n (lv' := [(0, .int ((x0.toUInt32 >>> (Int32.toUInt32 2 &&& Int32.toUInt32 31)).toInt32)), (1, .int (x1 + 2))]) dJ6_numberOfTrailingZeros_0f7a4_73 rfl (by decide) rfl ?_
    exact EvI.tr hB rfl

set_option maxRecDepth 20000 in
set_option maxHeartbeats 2000000 in
theorem kJ6_numberOfTrailingZeros_0f7a4_74 {K : KT} {G : St} {Q : Int32 → St → Prop} {x0 : Int32} {x1 : Int32} (hL : Lay G.2.2) 
    (hB : Q (x1 + ((x0.toUInt32 >>> (Int32.toUInt32 1 &&& Int32.toUInt32 31)).toInt32)) G) :
    EvI K mJ6_numberOfTrailingZeros_0f7a4 0 74 [(0, .int x0), (1, .int x1)] [] G Q := by
  refine E_iload_n 1 dJ6_numberOfTrailingZeros_0f7a4_74 rfl rfl ?_
  refine E_iload_n 0 dJ6_numberOfTrailingZeros_0f7a4_75 rfl rfl ?_
  refine E_iconst (v := 1) dJ6_numberOfTrailingZeros_0f7a4_76 (by decide) ?_
  refine E_iushr dJ6_numberOfTrailingZeros_0f7a4_77 rfl ?_
  refine E_iadd dJ6_numberOfTrailingZeros_0f7a4_78 ?_
  exact E_iret rfl dJ6_numberOfTrailingZeros_0f7a4_79 ⟨_, rfl, rfl, hB⟩

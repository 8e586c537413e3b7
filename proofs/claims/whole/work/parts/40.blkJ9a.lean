set_option maxRecDepth 20000 in
set_option maxHeartbeats 2000000 in
theorem kJ9_abs_0f7a4_0 {K : KT} {G : St} {Q : Int32 → St → Prop} {x0 : Int32} (hL : Lay G.2.2) 
    (hB : ((0 ≤ x0 → Q x0 G) ∧ (¬ 0 ≤ x0 → Q (-x0) G))) :
    EvI K mJ9_abs_0f7a4 0 0 [(0, .int x0)] [] G Q := by
  refine E_iload_n 0 dJ9_abs_0f7a4_0 rfl rfl ?_
  refine E_if_ge (tgt := 9) dJ9_abs_0f7a4_1 (by decide) (fun c => ?_) (fun c => ?_)
  · have hB := hB.1 c
    refine E_iload_n 0 dJ9_abs_0f7a4_9 rfl rfl ?_
    exact E_iret rfl dJ9_abs_0f7a4_10 ⟨_, rfl, rfl, hB⟩
  · have hB := hB.2 c
    refine E_iload_n 0 dJ9_abs_0f7a4_4 rfl rfl ?_
    refine E_ineg dJ9_abs_0f7a4_5 ?_
    refine E_goto (tgt := 10) dJ9_abs_0f7a4_6 (by decide) ?_
    exact E_iret rfl dJ9_abs_0f7a4_10 ⟨_, rfl, rfl, hB⟩

set_option maxRecDepth 20000 in
set_option maxHeartbeats 2000000 in
theorem kJ9_max_7cf53_0 {K : KT} {G : St} {Q : Int32 → St → Prop} {x0 : Int32} {x1 : Int32} (hL : Lay G.2.2) 
    (hB : ((x0 < x1 → Q x1 G) ∧ (¬ x0 < x1 → Q x0 G))) :
    EvI K mJ9_max_7cf53 0 0 [(0, .int x0), (1, .int x1)] [] G Q := by
  refine E_iload_n 0 dJ9_max_7cf53_0 rfl rfl ?_
  refine E_iload_n 1 dJ9_max_7cf53_1 rfl rfl ?_
  refine E_icmp_lt (tgt := 9) dJ9_max_7cf53_2 (by decide) (fun c => ?_) (fun c => ?_)
  · have hB := hB.1 c
    refine E_iload_n 1 dJ9_max_7cf53_9 rfl rfl ?_
    exact E_iret rfl dJ9_max_7cf53_10 ⟨_, rfl, rfl, hB⟩
  · have hB := hB.2 c
    refine E_iload_n 0 dJ9_max_7cf53_5 rfl rfl ?_
    refine E_goto (tgt := 10) dJ9_max_7cf53_6 (by decide) ?_
    exact E_iret rfl dJ9_max_7cf53_10 ⟨_, rfl, rfl, hB⟩

set_option maxRecDepth 20000 in
set_option maxHeartbeats 2000000 in
theorem kJ9_floorMod_7cf53_0 {K : KT} {G : St} {Q : Int32 → St → Prop} {x0 : Int32} {x1 : Int32} (hL : Lay G.2.2) 
    (hB : (¬ x1 = 0) ∧ ((0 ≤ (x0 ^^^ x1) → Q (x0 - x0 / x1 * x1) G) ∧ (¬ 0 ≤ (x0 ^^^ x1) → (((x0 - x0 / x1 * x1) = 0 → Q (x0 - x0 / x1 * x1) G) ∧ (¬ (x0 - x0 / x1 * x1) = 0 → Q ((x0 - x0 / x1 * x1) + x1) G))))) :
    EvI K mJ9_floorMod_7cf53 0 0 [(0, .int x0), (1, .int x1)] [] G Q := by
  refine E_iload_n 0 dJ9_floorMod_7cf53_0 rfl rfl ?_
  refine E_iload_n 1 dJ9_floorMod_7cf53_1 rfl rfl ?_
  obtain ⟨qq1, hB⟩ := hB
  refine E_irem dJ9_floorMod_7cf53_2 qq1 ?_
  refine E_istore_n (lv' := [(0, .int x0), (1, .int x1), (2, .int (x0 - x0 / x1 * x1))]) dJ9_floorMod_7cf53_3 rfl (by decide) rfl ?_
  refine E_iload_n 0 dJ9_floorMod_7cf53_4 rfl rfl ?_
  refine E_iload_n 1 dJ9_floorMod_7cf53_5 rfl rfl ?_
  refine E_ixor dJ9_floorMod_7cf53_6 ?_
  refine E_if_ge (tgt := 18) dJ9_floorMod_7cf53_7 (by decide) (fun c => ?_) (fun c => ?_)
  · have hB := hB.1 c
    refine E_iload_n 2 dJ9_floorMod_7cf53_18 rfl rfl ?_
    exact E_iret rfl dJ9_floorMod_7cf53_19 ⟨_, rfl, rfl, hB⟩
  · have hB := hB.2 c
    refine E_iload_n 2 dJ9_floorMod_7cf53_10 rfl rfl ?_
    refine E_if_eq (tgt := 18) dJ9_floorMod_7cf53_11 (by decide) (fun c => ?_) (fun c => ?_)
    · have hB := hB.1 c
      refine E_iload_n 2 dJ9_floorMod_7cf53_18 rfl rfl ?_
      exact E_iret rfl dJ9_floorMod_7cf53_19 ⟨_, rfl, rfl, hB⟩
    · have hB := hB.2 c
      refine E_iload_n 2 dJ9_floorMod_7cf53_14 rfl rfl ?_
      refine E_iload_n 1 dJ9_floorMod_7cf53_15 rfl rfl ?_
      refine E_iadd dJ9_floorMod_7cf53_16 ?_
      exact E_iret rfl dJ9_floorMod_7cf53_17 ⟨_, rfl, rfl, hB⟩

set_option maxRecDepth 20000 in
set_option maxHeartbeats 2000000 in
theorem kJ9_min_7cf53_0 {K : KT} {G : St} {Q : Int32 → St → Prop} {x0 : Int32} {x1 : Int32} (hL : Lay G.2.2) 
    (hB : ((x1 < x0 → Q x1 G) ∧ (¬ x1 < x0 → Q x0 G))) :
    EvI K mJ9_min_7cf53 0 0 [(0, .int x0), (1, .int x1)] [] G Q := by
  refine E_iload_n 0 dJ9_min_7cf53_0 rfl rfl ?_
  refine E_iload_n 1 dJ9_min_7cf53_1 rfl rfl ?_
  refine E_icmp_gt (tgt := 9) dJ9_min_7cf53_2 (by decide) (fun c => ?_) (fun c => ?_)
  · have hB := hB.1 c
    refine E_iload_n 1 dJ9_min_7cf53_9 rfl rfl ?_
    exact E_iret rfl dJ9_min_7cf53_10 ⟨_, rfl, rfl, hB⟩
  · have hB := hB.2 c
    refine E_iload_n 0 dJ9_min_7cf53_5 rfl rfl ?_
    refine E_goto (tgt := 10) dJ9_min_7cf53_6 (by decide) ?_
    exact E_iret rfl dJ9_min_7cf53_10 ⟨_, rfl, rfl, hB⟩

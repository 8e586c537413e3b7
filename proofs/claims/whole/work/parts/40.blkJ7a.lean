set_option maxRecDepth 20000 in
set_option maxHeartbeats 2000000 in
theorem kJ7_fill_53178_0 {K : KT} {G : St} {Q : St → Prop} {a0 n0 : Nat} {x1 : Int32} (hL : Lay G.2.2) (ha0 : Ar G a0 0 n0)
    (hB : EvV K mJ7_fill_53178 0 5 [(0, .ref a0), (1, .int x1), (2, .int 0), (3, .int (nI n0))] [] G Q) :
    EvV K mJ7_fill_53178 0 0 [(0, .ref a0), (1, .int x1)] [] G Q := by
  refine E_iconst (v := 0) dJ7_fill_53178_0 (by decide) ?_
  refine E_istore_n (lv' := [(0, .ref a0), (1, .int x1), (2, .int 0)]) dJ7_fill_53178_1 rfl (by decide) rfl ?_
  refine E_aload_n 0 dJ7_fill_53178_2 rfl rfl rfl ?_
  refine E_len (v := nI n0) ha0 (by decide) rfl dJ7_fill_53178_3 ?_
  refine E_istore_n (lv' := [(0, .ref a0), (1, .int x1), (2, .int 0), (3, .int (nI n0))]) dJ7_fill_53178_4 rfl (by decide) rfl ?_
  exact EvV.tr hB rfl

set_option maxRecDepth 20000 in
set_option maxHeartbeats 2000000 in
theorem kJ7_fill_53178_5 {K : KT} {G : St} {Q : St → Prop} {a0 n0 : Nat} {x1 : Int32} {x2 : Int32} {x3 : Int32} (hL : Lay G.2.2) (ha0 : Ar G a0 0 n0)
    (hB : ((x3 ≤ x2 → Q G) ∧ (¬ x3 ≤ x2 → vp_in x2 n0 ∧ EvV K mJ7_fill_53178 0 5 [(0, .ref a0), (1, .int x1), (2, .int (x2 + 1)), (3, .int x3)] [] (uI G a0 (Int32.toNatClampNeg x2) x1) Q))) :
    EvV K mJ7_fill_53178 0 5 [(0, .ref a0), (1, .int x1), (2, .int x2), (3, .int x3)] [] G Q := by
  refine E_iload_n 2 dJ7_fill_53178_5 rfl rfl ?_
  refine E_iload_n 3 dJ7_fill_53178_6 rfl rfl ?_
  refine E_icmp_ge (tgt := 20) dJ7_fill_53178_7 (by decide) (fun c => ?_) (fun c => ?_)
  · have hB := hB.1 c
    exact E_vret rfl dJ7_fill_53178_20 ⟨rfl, rfl, hB⟩
  · have hB := hB.2 c
    refine E_aload_n 0 dJ7_fill_53178_10 rfl rfl rfl ?_
    refine E_iload_n 2 dJ7_fill_53178_11 rfl rfl ?_
    refine E_iload_n 1 dJ7_fill_53178_12 rfl rfl ?_
    obtain ⟨qq1, hB⟩ := hB
    refine E_sI (p := Int32.toNatClampNeg x2) ha0 qq1 rfl dJ7_fill_53178_13 ?_
    refine E_iinc (v := x2 + 1) (lv' := [(0, .ref a0), (1, .int x1), (2, .int (x2 + 1)), (3, .int x3)]) 2 dJ7_fill_53178_14 rfl rfl (by decide) rfl ?_
    refine E_goto (tgt := 5) dJ7_fill_53178_17 (by decide) ?_
    exact EvV.tr hB rfl

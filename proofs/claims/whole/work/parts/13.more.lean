section RULESD
variable {K : KT} {M : MT} {d pc : Nat} {lv : List (Nat × Value)} {st : List Value} {G : St} {post : Option Value → St → Prop}
theorem fv_uI {i k ci : Nat} {v : Int32} (hk : sK G i = ci) (ht : isIt (tyOf ci k) = true) (j : Nat) : fv K (uI G i k v) i j = updV (fv K G i) k (.int v) j := by
  unfold updV
  by_cases e : j = k
  · subst e
    rw [if_pos rfl, fv_int (G := uI G i j v) (ci := ci) hk ht, sI_uI, upd, if_pos rfl]
  · rw [if_neg e]
    unfold fv
    rw [sI_uI]
    unfold upd
    rw [if_neg e]
    rfl
theorem fv_uL {i k ci : Nat} {v : Int64} (hk : sK G i = ci) (ht : tyOf ci k = .long) (j : Nat) : fv K (uL G i k v) i j = updV (fv K G i) k (.long v) j := by
  unfold updV
  by_cases e : j = k
  · subst e
    rw [if_pos rfl, fv_long (G := uL G i j v) (ci := ci) hk ht, sL_uL, vp_updL, if_pos rfl]
  · rw [if_neg e]
    unfold fv
    rw [sL_uL]
    unfold vp_updL
    rw [if_neg e]
    rfl
theorem fv_uR {i k ci v : Nat} (hk : sK G i = ci) (ht : isRt (tyOf ci k) = true) (hv : 0 < v) (j : Nat) : fv K (uR G i k v) i j = updV (fv K G i) k (.ref (kb K + v)) j := by
  unfold updV
  by_cases e : j = k
  · subst e
    rw [if_pos rfl, fv_ref (G := uR G i j v) (ci := ci) (j := v) hk ht (by rw [sR_uR]; exact up_at _ _ _) hv]
  · rw [if_neg e]
    unfold fv
    rw [sR_uR, up_ne _ _ e]
    rfl
theorem nar_i {ty : FieldType} {v : Int32} (h : ty = .int) : narrow ty (.int v) = .int v ∧ fits ty (.int v) = true := by subst h; exact ⟨vp_nar_int v, rfl⟩
theorem nar_z {ty : FieldType} {v : Int32} (h : ty = .boolean) (hv : v = 0 ∨ v = 1) : narrow ty (.int v) = .int v ∧ fits ty (.int v) = true := by
  subst h
  rcases hv with rfl | rfl <;> exact ⟨by decide +kernel, by decide +kernel⟩
theorem nar_l {ty : FieldType} {v : Int64} (h : ty = .long) : narrow ty (.long v) = .long v ∧ fits ty (.long v) = true := by subst h; exact ⟨rfl, rfl⟩
theorem nar_r {ty : FieldType} {a : Nat} (h : isRt ty = true) : narrow ty (.ref a) = .ref a ∧ fits ty (.ref a) = true := by
  cases ty <;> first | exact ⟨rfl, rfl⟩ | exact absurd h (fun q => by cases q)
theorem E_putI {idx ci k i : Nat} {v : Int32} (hcl : clOK ci) (hF : FL M.1.cls idx ci k false) (hci : ci < 12) (ht : tyOf ci k = .int) (hk : sK G i = ci) (h0 : 0 < i) (hi : i < nx G) (hdg : decode M.2.1 pc = .ok (.putfield idx, 3)) (h : Ev K M d (pc + 3) lv st (uI G i k v) post) : Ev K M d pc lv (.int v :: .ref i :: st) G post :=
  E_put (G1 := uI G i k v) rfl rfl (fun j hj => ag_uI hj) hk (fun j _ => fv_uI hk (by rw [ht]; rfl) j) hcl hF hci hk h0 hi (nar_i ht).1 (nar_i ht).2 hdg h
theorem E_putZ {idx ci k i : Nat} {v : Int32} (hcl : clOK ci) (hF : FL M.1.cls idx ci k false) (hci : ci < 12) (ht : tyOf ci k = .boolean) (hk : sK G i = ci) (h0 : 0 < i) (hi : i < nx G) (hv : v = 0 ∨ v = 1) (hdg : decode M.2.1 pc = .ok (.putfield idx, 3)) (h : Ev K M d (pc + 3) lv st (uI G i k v) post) : Ev K M d pc lv (.int v :: .ref i :: st) G post :=
  E_put (G1 := uI G i k v) rfl rfl (fun j hj => ag_uI hj) hk (fun j _ => fv_uI hk (by rw [ht]; rfl) j) hcl hF hci hk h0 hi (nar_z ht hv).1 (nar_z ht hv).2 hdg h
theorem E_putL {idx ci k i : Nat} {v : Int64} (hcl : clOK ci) (hF : FL M.1.cls idx ci k false) (hci : ci < 12) (ht : tyOf ci k = .long) (hk : sK G i = ci) (h0 : 0 < i) (hi : i < nx G) (hdg : decode M.2.1 pc = .ok (.putfield idx, 3)) (h : Ev K M d (pc + 3) lv st (uL G i k v) post) : Ev K M d pc lv (.long v :: .ref i :: st) G post :=
  E_put (G1 := uL G i k v) rfl rfl (fun j hj => ag_uL hj) hk (fun j _ => fv_uL hk ht j) hcl hF hci hk h0 hi (nar_l ht).1 (nar_l ht).2 hdg h
theorem E_putR {idx ci k i v : Nat} (hcl : clOK ci) (hF : FL M.1.cls idx ci k false) (hci : ci < 12) (ht : isRt (tyOf ci k) = true) (hk : sK G i = ci) (h0 : 0 < i) (hi : i < nx G) (hv : 0 < v) (hdg : decode M.2.1 pc = .ok (.putfield idx, 3)) (h : Ev K M d (pc + 3) lv st (uR G i k v) post) : Ev K M d pc lv (.ref v :: .ref i :: st) G post :=
  E_put (G1 := uR G i k v) rfl rfl (fun j hj => ag_uR hj) hk (fun j _ => fv_uR hk ht hv j) hcl hF hci hk h0 hi (nar_r ht).1 (nar_r ht).2 hdg h
theorem E_putFR {idx ci k i v : Nat} (hcl : clOK ci) (hF : FL M.1.cls idx ci k true) (hci : ci < 12) (hcls : ∀ C T N, vwCl[ci]? = some (C, T, N) → C = M.1.cls) (hinit : M.1.name = "<init>") (ht : isRt (tyOf ci k) = true) (hk : sK G i = ci) (h0 : 0 < i) (hi : i < nx G) (hv : 0 < v) (hdg : decode M.2.1 pc = .ok (.putfield idx, 3)) (h : Ev K M d (pc + 3) lv st (uR G i k v) post) : Ev K M d pc lv (.ref v :: .ref i :: st) G post :=
  E_putF (G1 := uR G i k v) rfl rfl (fun j hj => ag_uR hj) hk (fun j _ => fv_uR hk ht hv j) hcl hF hci hcls hinit hk h0 hi (nar_r ht).1 (nar_r ht).2 hdg h
/-! arrays -/
theorem arr_in {cA : ClassId} {n : Nat} {f : Nat → Value} {j : Int32} (h : vp_in j n) : ¬ (j < 0 ∨ (arrV cA n f).slots.size ≤ j.toNatClampNeg) := by rw [arrV_size]; exact h
theorem arr_lt {n : Nat} {j : Int32} (h : vp_in j n) : j.toNatClampNeg < n := Nat.not_le.mp fun q => h (Or.inr q)
theorem E_iald {i : Nat} {j : Int32} (hk : sK G i = 100) (h0 : 0 < i) (hi : i < nx G) (hin : vp_in j (sN G i)) (hdg : decode M.2.1 pc = .ok (.iaload, 1)) (h : Ev K M d (pc + 1) lv (.int (sI G i j.toNatClampNeg) :: st) G post) : Ev K M d pc lv (.int j :: .ref i :: st) G post :=
  E_goR (fun p e R s m args below meth c H locs cells slots ls Q C F hH hFr kk => W.iald (v := .int (sI G i j.toNatClampNeg)) C.1 C.2.1 ((hH.2.2 i h0 hi).1 hk) ((F.1.2 0 _ rfl).1 _ _) (fun q => by cases q) (arr_in hin) (arrV_read _ _ (arr_lt hin)) rfl rfl hdg kk) h
theorem E_lald {i : Nat} {j : Int32} (hk : sK G i = 101) (h0 : 0 < i) (hi : i < nx G) (hin : vp_in j (sN G i)) (hdg : decode M.2.1 pc = .ok (.laload, 1)) (h : Ev K M d (pc + 1) lv (.long (sL G i j.toNatClampNeg) :: st) G post) : Ev K M d pc lv (.int j :: .ref i :: st) G post :=
  E_goR (fun p e R s m args below meth c H locs cells slots ls Q C F hH hFr kk => W.lald (v := .long (sL G i j.toNatClampNeg)) C.1 C.2.1 ((hH.2.2 i h0 hi).2.1 hk) ((F.1.2 1 _ rfl).1 _ _) (fun q => by cases q) (arr_in hin) (arrV_read _ _ (arr_lt hin)) rfl rfl hdg kk) h
theorem E_bald {i : Nat} {j : Int32} (hk : sK G i = 102) (h0 : 0 < i) (hi : i < nx G) (hin : vp_in j (sN G i)) (hdg : decode M.2.1 pc = .ok (.baload, 1)) (h : Ev K M d (pc + 1) lv (.int (sI G i j.toNatClampNeg) :: st) G post) : Ev K M d pc lv (.int j :: .ref i :: st) G post :=
  E_goR (fun p e R s m args below meth c H locs cells slots ls Q C F hH hFr kk => W.bald (v := .int (sI G i j.toNatClampNeg)) C.1 C.2.1 ((hH.2.2 i h0 hi).2.2.1 hk) ((F.1.2 2 _ rfl).1 _ _) (fun q => by cases q) (arr_in hin) (arrV_read _ _ (arr_lt hin)) rfl rfl hdg kk) h
theorem E_zald {i : Nat} {j : Int32} (hk : sK G i = 103) (h0 : 0 < i) (hi : i < nx G) (hin : vp_in j (sN G i)) (hdg : decode M.2.1 pc = .ok (.baload, 1)) (h : Ev K M d (pc + 1) lv (.int (sI G i j.toNatClampNeg) :: st) G post) : Ev K M d pc lv (.int j :: .ref i :: st) G post :=
  E_goR (fun p e R s m args below meth c H locs cells slots ls Q C F hH hFr kk => W.zald (v := .int (sI G i j.toNatClampNeg)) C.1 C.2.1 ((hH.2.2 i h0 hi).2.2.2.1 hk) ((F.1.2 3 _ rfl).1 _ _) (fun q => by cases q) (arr_in hin) (arrV_read _ _ (arr_lt hin)) rfl rfl hdg kk) h
theorem updV_i (f : Nat → Int32) (k : Nat) (x : Int32) : updV (fun j => .int (f j)) k (.int x) = fun j => .int (upd f k x j) := by
  funext j
  unfold updV upd
  by_cases h : j = k
  · rw [if_pos h, if_pos h]
  · rw [if_neg h, if_neg h]
theorem updV_l (f : Nat → Int64) (k : Nat) (x : Int64) : updV (fun j => .long (f j)) k (.long x) = fun j => .long (vp_updL f k x j) := by
  funext j
  unfold updV vp_updL
  by_cases h : j = k
  · rw [if_pos h, if_pos h]
  · rw [if_neg h, if_neg h]
theorem E_iast {i : Nat} {j x : Int32} (hk : sK G i = 100) (h0 : 0 < i) (hi : i < nx G) (hin : vp_in j (sN G i)) (hdg : decode M.2.1 pc = .ok (.iastore, 1)) (h : Ev K M d (pc + 1) lv st (uI G i j.toNatClampNeg x) post) : Ev K M d pc lv (.int x :: .int j :: .ref i :: st) G post := by
  refine E_goS (G1 := uI G i j.toNatClampNeg x) rfl rfl (fun p e R s m args below meth c H locs cells slots ls Q C F hH hFr hl kk => ?_) h
  refine W.iast C.1 C.2.1 ((hH.2.2 i h0 hi).1 hk) ((F.1.2 0 _ rfl).1 _ _) (fun q => by cases q) (arr_in hin) rfl rfl hdg fun H1 e1 z oq => ?_
  refine kk H1 _ (hH.put rfl z oq (fun j hj => ag_uI hj) ?_) (hFr.put h0 oq) (locs_put hl h0)
  have hk1 : sK (uI G i j.toNatClampNeg x) i = 100 := hk
  refine ⟨fun _ => ?_, fun q => absurd q (by omega), fun q => absurd q (by omega), fun q => absurd q (by omega), fun q => absurd q (by omega)⟩
  rw [e1, arrV_store, updV_i, sI_uI]; rfl
theorem E_last {i : Nat} {j : Int32} {x : Int64} (hk : sK G i = 101) (h0 : 0 < i) (hi : i < nx G) (hin : vp_in j (sN G i)) (hdg : decode M.2.1 pc = .ok (.lastore, 1)) (h : Ev K M d (pc + 1) lv st (uL G i j.toNatClampNeg x) post) : Ev K M d pc lv (.long x :: .int j :: .ref i :: st) G post := by
  refine E_goS (G1 := uL G i j.toNatClampNeg x) rfl rfl (fun p e R s m args below meth c H locs cells slots ls Q C F hH hFr hl kk => ?_) h
  refine W.last C.1 C.2.1 ((hH.2.2 i h0 hi).2.1 hk) ((F.1.2 1 _ rfl).1 _ _) (fun q => by cases q) (arr_in hin) rfl rfl hdg fun H1 e1 z oq => ?_
  refine kk H1 _ (hH.put rfl z oq (fun j hj => ag_uL hj) ?_) (hFr.put h0 oq) (locs_put hl h0)
  have hk1 : sK (uL G i j.toNatClampNeg x) i = 101 := hk
  refine ⟨fun q => absurd q (by omega), fun _ => ?_, fun q => absurd q (by omega), fun q => absurd q (by omega), fun q => absurd q (by omega)⟩
  rw [e1, arrV_store, updV_l, sL_uL]; rfl
theorem E_bast {i : Nat} {j x : Int32} (hk : sK G i = 102) (h0 : 0 < i) (hi : i < nx G) (hin : vp_in j (sN G i)) (hdg : decode M.2.1 pc = .ok (.bastore, 1)) (h : Ev K M d (pc + 1) lv st (uI G i j.toNatClampNeg (x.toInt8.toInt32)) post) : Ev K M d pc lv (.int x :: .int j :: .ref i :: st) G post := by
  refine E_goS (G1 := uI G i j.toNatClampNeg x.toInt8.toInt32) rfl rfl (fun p e R s m args below meth c H locs cells slots ls Q C F hH hFr hl kk => ?_) h
  refine W.bast C.1 C.2.1 ((hH.2.2 i h0 hi).2.2.1 hk) ((F.1.2 2 _ rfl).1 _ _) (fun q => by cases q) (arr_in hin) rfl rfl hdg fun H1 e1 z oq => ?_
  refine kk H1 _ (hH.put rfl z oq (fun j hj => ag_uI hj) ?_) (hFr.put h0 oq) (locs_put hl h0)
  have hk1 : sK (uI G i j.toNatClampNeg x.toInt8.toInt32) i = 102 := hk
  refine ⟨fun q => absurd q (by omega), fun q => absurd q (by omega), fun _ => ?_, fun q => absurd q (by omega), fun q => absurd q (by omega)⟩
  rw [e1, arrV_store, show (narrow .byte (.int x)) = Value.int x.toInt8.toInt32 from rfl, updV_i, sI_uI]; rfl
theorem nar_zz {x : Int32} (h : x = 0 ∨ x = 1) : narrow .boolean (.int x) = .int x := by rcases h with rfl | rfl <;> decide +kernel
theorem E_zast {i : Nat} {j x : Int32} (hk : sK G i = 103) (h0 : 0 < i) (hi : i < nx G) (hin : vp_in j (sN G i)) (hx : x = 0 ∨ x = 1) (hdg : decode M.2.1 pc = .ok (.bastore, 1)) (h : Ev K M d (pc + 1) lv st (uI G i j.toNatClampNeg x) post) : Ev K M d pc lv (.int x :: .int j :: .ref i :: st) G post := by
  refine E_goS (G1 := uI G i j.toNatClampNeg x) rfl rfl (fun p e R s m args below meth c H locs cells slots ls Q C F hH hFr hl kk => ?_) h
  refine W.zast C.1 C.2.1 ((hH.2.2 i h0 hi).2.2.2.1 hk) ((F.1.2 3 _ rfl).1 _ _) (fun q => by cases q) (arr_in hin) rfl rfl hdg fun H1 e1 z oq => ?_
  refine kk H1 _ (hH.put rfl z oq (fun j hj => ag_uI hj) ?_) (hFr.put h0 oq) (locs_put hl h0)
  have hk1 : sK (uI G i j.toNatClampNeg x) i = 103 := hk
  refine ⟨fun q => absurd q (by omega), fun q => absurd q (by omega), fun q => absurd q (by omega), fun _ => ?_, fun q => absurd q (by omega)⟩
  rw [e1, arrV_store, nar_zz hx, updV_i, sI_uI]; rfl
theorem E_alen {i t : Nat} {v : Int32} (hk : sK G i = 100 + t) (ht : t < 4) (h0 : 0 < i) (hi : i < nx G) (hv : Int32.ofNat (sN G i) = v) (hdg : decode M.2.1 pc = .ok (.arraylength, 1)) (h : Ev K M d (pc + 1) lv (.int v :: st) G post) : Ev K M d pc lv (.ref i :: st) G post := by
  refine E_goR (fun p e R s m args below meth c H locs cells slots ls Q C F hH hFr kk => ?_) h
  have hc := hH.2.2 i h0 hi
  rcases (show t = 0 ∨ t = 1 ∨ t = 2 ∨ t = 3 by omega) with rfl | rfl | rfl | rfl
  · exact W.alen (n := v) C.1 C.2.1 (hc.1 hk) ((F.1.2 0 _ rfl).1 _ _) (by rw [arrV_size]; exact hv) rfl rfl hdg kk
  · exact W.alen (n := v) C.1 C.2.1 (hc.2.1 hk) ((F.1.2 1 _ rfl).1 _ _) (by rw [arrV_size]; exact hv) rfl rfl hdg kk
  · exact W.alen (n := v) C.1 C.2.1 (hc.2.2.1 hk) ((F.1.2 2 _ rfl).1 _ _) (by rw [arrV_size]; exact hv) rfl rfl hdg kk
  · exact W.alen (n := v) C.1 C.2.1 (hc.2.2.2.1 hk) ((F.1.2 3 _ rfl).1 _ _) (by rw [arrV_size]; exact hv) rfl rfl hdg kk
end RULESD

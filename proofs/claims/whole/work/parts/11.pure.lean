section RULESB
variable {K : KT} {M : MT} {d pc : Nat} {lv : List (Nat × Value)} {st : List Value} {G : St} {post : Option Value → St → Prop}
def isA (v : Value) : Bool := match v with
  | .ref _ => true
  | .float _ => true
  | _ => false
theorem isA_cv (K : KT) {v : Value} (h : isA v = true) : ∃ x, cv K v = .ref x := by
  cases v <;> first | exact ⟨_, rfl⟩ | exact absurd h (fun q => by cases q)
theorem cv_c1 {v : Value} (h : v.category = 1) : (cv K v).category = 1 := (cv_cat K v).trans h
def flt (i : Nat) (lv : List (Nat × Value)) : List (Nat × Value) := lv.filter (fun q => !(q.1 == i) && !(q.1 + 1 == i && q.2.category == 2))
def flt2 (i : Nat) (lv : List (Nat × Value)) : List (Nat × Value) := lv.filter (fun q => !(q.1 == i) && (!(q.1 == i + 1) && !(q.1 + 1 == i && q.2.category == 2)))
def ins (i : Nat) (v : Value) : List (Nat × Value) → List (Nat × Value)
  | [] => [(i, v)]
  | q :: r => bif Nat.blt q.1 i then q :: ins i v r else (i, v) :: q :: r
theorem ins_mem {i : Nat} {v : Value} : ∀ {l : List (Nat × Value)} {q : Nat × Value}, q ∈ ins i v l → q = (i, v) ∨ q ∈ l
  | [], q, h => by
    rcases List.mem_singleton.mp h with rfl
    exact Or.inl rfl
  | r :: l, q, h => by
    unfold ins at h
    cases hb : Nat.blt r.1 i with
    | true =>
      rw [hb] at h
      rcases List.mem_cons.mp h with h | h
      · exact Or.inr (List.mem_cons.mpr (Or.inl h))
      · rcases ins_mem h with h | h
        · exact Or.inl h
        · exact Or.inr (List.mem_cons.mpr (Or.inr h))
    | false =>
      rw [hb] at h
      rcases List.mem_cons.mp h with h | h
      · exact Or.inl h
      · exact Or.inr h
theorem flt_map (i : Nat) (lv : List (Nat × Value)) : (lv.map (cp K)).filter (fun q => !(q.1 == i) && !(q.1 + 1 == i && q.2.category == 2)) = (flt i lv).map (cp K) := by
  rw [flt, List.filter_map]
  congr 1
  apply List.filter_congr
  intro q _
  simp [cp, cv_cat]
theorem flt2_map (i : Nat) (lv : List (Nat × Value)) : (lv.map (cp K)).filter (fun q => !(q.1 == i) && (!(q.1 == i + 1) && !(q.1 + 1 == i && q.2.category == 2))) = (flt2 i lv).map (cp K) := by
  rw [flt2, List.filter_map]
  congr 1
  apply List.filter_congr
  intro q _
  simp [cp, cv_cat]
theorem lv_subc {ls : Array Slot} {nL : Nat} {l l' : List (Nat × Value)} (h : lv_has ls nL (l.map (cp K))) (hs : ∀ q ∈ l', q ∈ l) : lv_has ls nL (l'.map (cp K)) := by
  refine ⟨h.1, h.2.1, fun q hq => ?_⟩
  obtain ⟨q0, h0, rfl⟩ := List.mem_map.mp hq
  exact h.2.2 _ (List.mem_map.mpr ⟨q0, hs q0 h0, rfl⟩)
theorem lv_insc {ls : Array Slot} {nL i : Nat} {v : Value} {l l' l0 : List (Nat × Value)} (h : lv_has ls nL ((i, cv K v) :: l.map (cp K))) (hl : ins i v l = l') : lv_has ls nL (l'.map (cp K)) := by
  refine lv_subc (l := (i, v) :: l) h (fun q hq => ?_)
  rw [← hl] at hq
  rcases ins_mem hq with h | h
  · exact List.mem_cons.mpr (Or.inl h)
  · exact List.mem_cons.mpr (Or.inr h)
/-- fewer locals, by their places -/
theorem E_sub {lv' : List (Nat × Value)} (ks : List Nat) (hl : lv_pick lv ks = lv') (h : Ev K M d pc lv' st G post) : Ev K M d pc lv st G post :=
  E_go (fun _ _ _ _ _ _ _ _ _ _ _ _ _ ls _ _ _ _ hlv k => k ls (lv_subc hlv (fun q hq => by
    rw [← hl] at hq
    obtain ⟨j, -, hj⟩ := List.mem_filterMap.mp hq
    exact List.mem_of_getElem? hj))) h
theorem E_aload_n {k : Fin 4} {i : Nat} {v : Value} (j : Nat) (hdg : decode M.2.1 pc = .ok (.aload_n k, 1)) (hi : (k : Nat) = i) (hj : lv[j]? = some (i, v)) (hv : isA v = true) (h : Ev K M d (pc + 1) lv (v :: st) G post) : Ev K M d pc lv st G post :=
  E_go1 (fun _ _ _ _ _ _ _ _ _ _ _ _ _ _ _ hx hb _ hlv k => by
    obtain ⟨x, hx2⟩ := isA_cv K hv
    have h9 := lv_atc hlv j hj
    rw [hx2] at h9
    rw [List.map_cons, hx2] at k
    exact lv_aload_n hx hb hdg hi h9 k) h
theorem E_aload {i : Nat} {v : Value} (j : Nat) (hdg : decode M.2.1 pc = .ok (.aload i, 2)) (hj : lv[j]? = some (i, v)) (hv : isA v = true) (h : Ev K M d (pc + 2) lv (v :: st) G post) : Ev K M d pc lv st G post :=
  E_go1 (fun _ _ _ _ _ _ _ _ _ _ _ _ _ _ _ hx hb _ hlv k => by
    obtain ⟨x, hx2⟩ := isA_cv K hv
    have h9 := lv_atc hlv j hj
    rw [hx2] at h9
    rw [List.map_cons, hx2] at k
    exact lv_aload hx hb hdg h9 k) h
theorem E_istore_n {k : Fin 4} {i : Nat} {x : Int32} {lv' : List (Nat × Value)} (hdg : decode M.2.1 pc = .ok (.istore_n k, 1)) (hi : (k : Nat) = i) (hn : i < M.2.2.1) (hl : ins i (.int x) (flt i lv) = lv') (h : Ev K M d (pc + 1) lv' st G post) : Ev K M d pc lv (.int x :: st) G post :=
  E_go (fun _ _ _ _ _ _ _ _ _ _ _ _ _ _ _ hx hb _ hlv k => lv_istore_n hx hb hdg hi hlv hn rfl (fun ls' h9 => k ls' (lv_insc (l0 := lv) (by rw [flt_map] at h9; exact h9) hl))) h
theorem E_istore {i : Nat} {x : Int32} {lv' : List (Nat × Value)} (hdg : decode M.2.1 pc = .ok (.istore i, 2)) (hn : i < M.2.2.1) (hl : ins i (.int x) (flt i lv) = lv') (h : Ev K M d (pc + 2) lv' st G post) : Ev K M d pc lv (.int x :: st) G post :=
  E_go (fun _ _ _ _ _ _ _ _ _ _ _ _ _ _ _ hx hb _ hlv k => lv_istore hx hb hdg hlv hn rfl (fun ls' h9 => k ls' (lv_insc (l0 := lv) (by rw [flt_map] at h9; exact h9) hl))) h
theorem E_lstore_n {k : Fin 4} {i : Nat} {x : Int64} {lv' : List (Nat × Value)} (hdg : decode M.2.1 pc = .ok (.lstore_n k, 1)) (hi : (k : Nat) = i) (hn : i + 1 < M.2.2.1) (hl : ins i (.long x) (flt2 i lv) = lv') (h : Ev K M d (pc + 1) lv' st G post) : Ev K M d pc lv (.long x :: st) G post :=
  E_go (fun _ _ _ _ _ _ _ _ _ _ _ _ _ _ _ hx hb _ hlv k => lv_lstore_n hx hb hdg hi hlv hn rfl (fun ls' h9 => k ls' (lv_insc (l0 := lv) (by rw [flt2_map] at h9; exact h9) hl))) h
theorem E_lstore {i : Nat} {x : Int64} {lv' : List (Nat × Value)} (hdg : decode M.2.1 pc = .ok (.lstore i, 2)) (hn : i + 1 < M.2.2.1) (hl : ins i (.long x) (flt2 i lv) = lv') (h : Ev K M d (pc + 2) lv' st G post) : Ev K M d pc lv (.long x :: st) G post :=
  E_go (fun _ _ _ _ _ _ _ _ _ _ _ _ _ _ _ hx hb _ hlv k => lv_lstore hx hb hdg hlv hn rfl (fun ls' h9 => k ls' (lv_insc (l0 := lv) (by rw [flt2_map] at h9; exact h9) hl))) h
theorem E_astore_n {k : Fin 4} {i : Nat} {v : Value} {lv' : List (Nat × Value)} (hdg : decode M.2.1 pc = .ok (.astore_n k, 1)) (hi : (k : Nat) = i) (hn : i < M.2.2.1) (hv : isA v = true) (hl : ins i v (flt i lv) = lv') (h : Ev K M d (pc + 1) lv' st G post) : Ev K M d pc lv (v :: st) G post :=
  E_go (fun _ _ _ _ _ _ _ _ _ _ _ _ _ _ _ hx hb _ hlv k => by
    obtain ⟨x, hx2⟩ := isA_cv K hv
    rw [List.map_cons, hx2]
    refine lv_astore_n hx hb hdg hi hlv hn rfl (fun ls' h9 => k ls' (lv_insc (l0 := lv) (v := v) (by rw [flt_map, ← hx2] at h9; exact h9) hl))) h
theorem E_astore {i : Nat} {v : Value} {lv' : List (Nat × Value)} (hdg : decode M.2.1 pc = .ok (.astore i, 2)) (hn : i < M.2.2.1) (hv : isA v = true) (hl : ins i v (flt i lv) = lv') (h : Ev K M d (pc + 2) lv' st G post) : Ev K M d pc lv (v :: st) G post :=
  E_go (fun _ _ _ _ _ _ _ _ _ _ _ _ _ _ _ hx hb _ hlv k => by
    obtain ⟨x, hx2⟩ := isA_cv K hv
    rw [List.map_cons, hx2]
    refine lv_astore hx hb hdg hlv hn rfl (fun ls' h9 => k ls' (lv_insc (l0 := lv) (v := v) (by rw [flt_map, ← hx2] at h9; exact h9) hl))) h
theorem E_iinc {i : Nat} {n : Int} {x v : Int32} {lv' : List (Nat × Value)} (j : Nat) (hdg : decode M.2.1 pc = .ok (.iinc i n, 3)) (hj : lv[j]? = some (i, .int x)) (hv : x + Int32.ofInt n = v) (hn : i < M.2.2.1) (hl : ins i (.int v) (flt i lv) = lv') (h : Ev K M d (pc + 3) lv' st G post) : Ev K M d pc lv st G post :=
  E_go (fun _ _ _ _ _ _ _ _ _ _ _ _ _ _ _ hx hb _ hlv k => lv_iinc hx hb hdg hlv (k := j) (by rw [List.getElem?_map, hj]; rfl) hv hn rfl (fun ls' h9 => k ls' (lv_insc (l0 := lv) (v := .int v) (by rw [flt_map] at h9; exact h9) hl))) h
theorem E_iadd {x y : Int32} (hdg : decode M.2.1 pc = .ok (.iadd, 1)) (h : Ev K M d (pc + 1) lv (.int (x + y) :: st) G post) : Ev K M d pc lv (.int y :: .int x :: st) G post :=
  E_go1 (fun _ _ _ _ _ _ _ _ _ _ _ _ _ _ _ hx hb _ _ k => lv_iadd hx hb hdg k) h
theorem E_ladd {x y : Int64} (hdg : decode M.2.1 pc = .ok (.ladd, 1)) (h : Ev K M d (pc + 1) lv (.long (x + y) :: st) G post) : Ev K M d pc lv (.long y :: .long x :: st) G post :=
  E_go1 (fun _ _ _ _ _ _ _ _ _ _ _ _ _ _ _ hx hb _ _ k => lv_ladd hx hb hdg k) h
theorem E_isub {x y : Int32} (hdg : decode M.2.1 pc = .ok (.isub, 1)) (h : Ev K M d (pc + 1) lv (.int (x - y) :: st) G post) : Ev K M d pc lv (.int y :: .int x :: st) G post :=
  E_go1 (fun _ _ _ _ _ _ _ _ _ _ _ _ _ _ _ hx hb _ _ k => lv_isub hx hb hdg k) h
theorem E_lsub {x y : Int64} (hdg : decode M.2.1 pc = .ok (.lsub, 1)) (h : Ev K M d (pc + 1) lv (.long (x - y) :: st) G post) : Ev K M d pc lv (.long y :: .long x :: st) G post :=
  E_go1 (fun _ _ _ _ _ _ _ _ _ _ _ _ _ _ _ hx hb _ _ k => lv_lsub hx hb hdg k) h
theorem E_imul {x y : Int32} (hdg : decode M.2.1 pc = .ok (.imul, 1)) (h : Ev K M d (pc + 1) lv (.int (x * y) :: st) G post) : Ev K M d pc lv (.int y :: .int x :: st) G post :=
  E_go1 (fun _ _ _ _ _ _ _ _ _ _ _ _ _ _ _ hx hb _ _ k => lv_imul hx hb hdg k) h
theorem E_lmul {x y : Int64} (hdg : decode M.2.1 pc = .ok (.lmul, 1)) (h : Ev K M d (pc + 1) lv (.long (x * y) :: st) G post) : Ev K M d pc lv (.long y :: .long x :: st) G post :=
  E_go1 (fun _ _ _ _ _ _ _ _ _ _ _ _ _ _ _ hx hb _ _ k => lv_lmul hx hb hdg k) h
theorem E_iand {x y : Int32} (hdg : decode M.2.1 pc = .ok (.iand, 1)) (h : Ev K M d (pc + 1) lv (.int (x &&& y) :: st) G post) : Ev K M d pc lv (.int y :: .int x :: st) G post :=
  E_go1 (fun _ _ _ _ _ _ _ _ _ _ _ _ _ _ _ hx hb _ _ k => lv_iand hx hb hdg k) h
theorem E_land {x y : Int64} (hdg : decode M.2.1 pc = .ok (.land, 1)) (h : Ev K M d (pc + 1) lv (.long (x &&& y) :: st) G post) : Ev K M d pc lv (.long y :: .long x :: st) G post :=
  E_go1 (fun _ _ _ _ _ _ _ _ _ _ _ _ _ _ _ hx hb _ _ k => lv_land hx hb hdg k) h
theorem E_ior {x y : Int32} (hdg : decode M.2.1 pc = .ok (.ior, 1)) (h : Ev K M d (pc + 1) lv (.int (x ||| y) :: st) G post) : Ev K M d pc lv (.int y :: .int x :: st) G post :=
  E_go1 (fun _ _ _ _ _ _ _ _ _ _ _ _ _ _ _ hx hb _ _ k => lv_ior hx hb hdg k) h
theorem E_lor {x y : Int64} (hdg : decode M.2.1 pc = .ok (.lor, 1)) (h : Ev K M d (pc + 1) lv (.long (x ||| y) :: st) G post) : Ev K M d pc lv (.long y :: .long x :: st) G post :=
  E_go1 (fun _ _ _ _ _ _ _ _ _ _ _ _ _ _ _ hx hb _ _ k => lv_lor hx hb hdg k) h
theorem E_ixor {x y : Int32} (hdg : decode M.2.1 pc = .ok (.ixor, 1)) (h : Ev K M d (pc + 1) lv (.int (x ^^^ y) :: st) G post) : Ev K M d pc lv (.int y :: .int x :: st) G post :=
  E_go1 (fun _ _ _ _ _ _ _ _ _ _ _ _ _ _ _ hx hb _ _ k => lv_ixor hx hb hdg k) h
theorem E_idiv {x y : Int32} (hdg : decode M.2.1 pc = .ok (.idiv, 1)) (hne : ¬ y = 0) (h : Ev K M d (pc + 1) lv (.int (x / y) :: st) G post) : Ev K M d pc lv (.int y :: .int x :: st) G post :=
  E_go1 (fun _ _ _ _ _ _ _ _ _ _ _ _ _ _ _ hx hb _ _ k => lv_idiv hx hb hdg hne k) h
theorem E_irem {x y : Int32} (hdg : decode M.2.1 pc = .ok (.irem, 1)) (hne : ¬ y = 0) (h : Ev K M d (pc + 1) lv (.int (x - x / y * y) :: st) G post) : Ev K M d pc lv (.int y :: .int x :: st) G post :=
  E_go1 (fun _ _ _ _ _ _ _ _ _ _ _ _ _ _ _ hx hb _ _ k => lv_irem hx hb hdg hne k) h
theorem E_ldiv {x y : Int64} (hdg : decode M.2.1 pc = .ok (.ldiv, 1)) (hne : ¬ y = 0) (h : Ev K M d (pc + 1) lv (.long (x / y) :: st) G post) : Ev K M d pc lv (.long y :: .long x :: st) G post :=
  E_go1 (fun _ _ _ _ _ _ _ _ _ _ _ _ _ _ _ hx hb _ _ k => lv_ldiv hx hb hdg hne k) h
theorem E_lrem {x y : Int64} (hdg : decode M.2.1 pc = .ok (.lrem, 1)) (hne : ¬ y = 0) (h : Ev K M d (pc + 1) lv (.long (x - x / y * y) :: st) G post) : Ev K M d pc lv (.long y :: .long x :: st) G post :=
  E_go1 (fun _ _ _ _ _ _ _ _ _ _ _ _ _ _ _ hx hb _ _ k => lv_lrem hx hb hdg hne k) h
theorem E_ishl {x y : Int32} (hdg : decode M.2.1 pc = .ok (.ishl, 1)) (h : Ev K M d (pc + 1) lv (.int (x <<< (y &&& 31)) :: st) G post) : Ev K M d pc lv (.int y :: .int x :: st) G post :=
  E_go1 (fun _ _ _ _ _ _ _ _ _ _ _ _ _ _ _ hx hb _ _ k => lv_ishl hx hb hdg k) h
theorem E_ishr {x y : Int32} (hdg : decode M.2.1 pc = .ok (.ishr, 1)) (h : Ev K M d (pc + 1) lv (.int (x >>> (y &&& 31)) :: st) G post) : Ev K M d pc lv (.int y :: .int x :: st) G post :=
  E_go1 (fun _ _ _ _ _ _ _ _ _ _ _ _ _ _ _ hx hb _ _ k => lv_ishr hx hb hdg k) h
theorem E_iushr {x y v : Int32} (hdg : decode M.2.1 pc = .ok (.iushr, 1)) (hv : (x.toUInt32 >>> (y.toUInt32 &&& Int32.toUInt32 31)).toInt32 = v) (h : Ev K M d (pc + 1) lv (.int v :: st) G post) : Ev K M d pc lv (.int y :: .int x :: st) G post :=
  E_go1 (fun _ _ _ _ _ _ _ _ _ _ _ _ _ _ _ hx hb _ _ k => lv_iushr hx hb hdg hv k) h
theorem E_lshl {x v : Int64} {y : Int32} (hdg : decode M.2.1 pc = .ok (.lshl, 1)) (hv : x <<< (y.toInt64 &&& 63) = v) (h : Ev K M d (pc + 1) lv (.long v :: st) G post) : Ev K M d pc lv (.int y :: .long x :: st) G post :=
  E_go1 (fun _ _ _ _ _ _ _ _ _ _ _ _ _ _ _ hx hb _ _ k => lv_lshl hx hb hdg hv k) h
theorem E_lshr {x v : Int64} {y : Int32} (hdg : decode M.2.1 pc = .ok (.lshr, 1)) (hv : x >>> (y.toInt64 &&& 63) = v) (h : Ev K M d (pc + 1) lv (.long v :: st) G post) : Ev K M d pc lv (.int y :: .long x :: st) G post :=
  E_go1 (fun _ _ _ _ _ _ _ _ _ _ _ _ _ _ _ hx hb _ _ k => lv_lshr hx hb hdg hv k) h
theorem E_lushr {x v : Int64} {y : Int32} (hdg : decode M.2.1 pc = .ok (.lushr, 1)) (hv : (x.toUInt64 >>> (y.toInt64.toUInt64 &&& Int64.toUInt64 63)).toInt64 = v) (h : Ev K M d (pc + 1) lv (.long v :: st) G post) : Ev K M d pc lv (.int y :: .long x :: st) G post :=
  E_go1 (fun _ _ _ _ _ _ _ _ _ _ _ _ _ _ _ hx hb _ _ k => lv_lushr hx hb hdg hv k) h
theorem E_ineg {x : Int32} (hdg : decode M.2.1 pc = .ok (.ineg, 1)) (h : Ev K M d (pc + 1) lv (.int (-x) :: st) G post) : Ev K M d pc lv (.int x :: st) G post :=
  E_go1 (fun _ _ _ _ _ _ _ _ _ _ _ _ _ _ _ hx hb _ _ k => lv_ineg hx hb hdg k) h
theorem E_i2l {x : Int32} {v : Int64} (hdg : decode M.2.1 pc = .ok (.i2l, 1)) (hv : x.toInt64 = v) (h : Ev K M d (pc + 1) lv (.long v :: st) G post) : Ev K M d pc lv (.int x :: st) G post :=
  E_go1 (fun _ _ _ _ _ _ _ _ _ _ _ _ _ _ _ hx hb _ _ k => lv_i2l hx hb hdg hv k) h
theorem E_l2i {x : Int64} {v : Int32} (hdg : decode M.2.1 pc = .ok (.l2i, 1)) (hv : x.toInt32 = v) (h : Ev K M d (pc + 1) lv (.int v :: st) G post) : Ev K M d pc lv (.long x :: st) G post :=
  E_go1 (fun _ _ _ _ _ _ _ _ _ _ _ _ _ _ _ hx hb _ _ k => lv_l2i hx hb hdg hv k) h
theorem E_i2b {x : Int32} {v : Int32} (hdg : decode M.2.1 pc = .ok (.i2b, 1)) (hv : x.toInt8.toInt32 = v) (h : Ev K M d (pc + 1) lv (.int v :: st) G post) : Ev K M d pc lv (.int x :: st) G post :=
  E_go1 (fun _ _ _ _ _ _ _ _ _ _ _ _ _ _ _ hx hb _ _ k => lv_i2b hx hb hdg hv k) h
theorem E_lcmp {x y : Int64} (hdg : decode M.2.1 pc = .ok (.lcmp, 1)) (h : Ev K M d (pc + 1) lv (.int (lg_cmp x y) :: st) G post) : Ev K M d pc lv (.long y :: .long x :: st) G post :=
  E_go1 (fun _ _ _ _ _ _ _ _ _ _ _ _ _ _ _ hx hb _ _ k => W.lcmp hx hb hdg k) h
theorem E_dup {v : Value} (hdg : decode M.2.1 pc = .ok (.dup, 1)) (hv : v.category = 1) (h : Ev K M d (pc + 1) lv (v :: v :: st) G post) : Ev K M d pc lv (v :: st) G post :=
  E_go1 (fun _ _ _ _ _ _ _ _ _ _ _ _ _ _ _ hx hb _ _ k => lv_dup hx hb hdg (cv_c1 hv) k) h
theorem E_pop {v : Value} (hdg : decode M.2.1 pc = .ok (.pop, 1)) (hv : v.category = 1) (h : Ev K M d (pc + 1) lv st G post) : Ev K M d pc lv (v :: st) G post :=
  E_go1 (fun _ _ _ _ _ _ _ _ _ _ _ _ _ _ _ hx hb _ _ k => lv_pop hx hb hdg (cv_c1 hv) k) h
theorem E_dup_x1 {v w : Value} (hdg : decode M.2.1 pc = .ok (.dup_x1, 1)) (hv : v.category = 1) (hw : w.category = 1) (h : Ev K M d (pc + 1) lv (v :: w :: v :: st) G post) : Ev K M d pc lv (v :: w :: st) G post :=
  E_go1 (fun _ _ _ _ _ _ _ _ _ _ _ _ _ _ _ hx hb _ _ k => lv_dup_x1 hx hb hdg (cv_c1 hv) (cv_c1 hw) k) h
theorem E_dup_x2 {v w u : Value} (hdg : decode M.2.1 pc = .ok (.dup_x2, 1)) (hv : v.category = 1) (hw : w.category = 1) (hu : u.category = 1) (h : Ev K M d (pc + 1) lv (v :: w :: u :: v :: st) G post) : Ev K M d pc lv (v :: w :: u :: st) G post :=
  E_go1 (fun _ _ _ _ _ _ _ _ _ _ _ _ _ _ _ hx hb _ _ k => lv_dup_x2 hx hb hdg (cv_c1 hv) (cv_c1 hw) (cv_c1 hu) k) h
theorem E_dup2 {v w : Value} (hdg : decode M.2.1 pc = .ok (.dup2, 1)) (hv : v.category = 1) (hw : w.category = 1) (h : Ev K M d (pc + 1) lv (v :: w :: v :: w :: st) G post) : Ev K M d pc lv (v :: w :: st) G post :=
  E_go1 (fun _ _ _ _ _ _ _ _ _ _ _ _ _ _ _ hx hb _ _ k => lv_dup2_11 hx hb hdg (cv_c1 hv) (cv_c1 hw) k) h
theorem E_goto {off : Int} {tgt : Nat} (hdg : decode M.2.1 pc = .ok (.goto off, 3)) (ht : (pc : Int) + off = (tgt : Int)) (h : Ev K M d tgt lv st G post) : Ev K M d pc lv st G post :=
  E_go1 (fun _ _ _ _ _ _ _ _ _ _ _ _ _ _ _ hx hb _ _ k => lv_goto hx hb hdg ht k) h
theorem E_ifnull {i : Nat} {off : Int} (hdg : decode M.2.1 pc = .ok (.ifnull off, 3)) (h : Ev K M d (pc + 3) lv st G post) : Ev K M d pc lv (.ref i :: st) G post :=
  E_go1 (fun _ _ _ _ _ _ _ _ _ _ _ _ _ _ _ hx hb _ _ k => lv_ifnull hx hb hdg k) h
theorem E_if_eq {x : Int32} {off : Int} {tgt : Nat} (hdg : decode M.2.1 pc = .ok (.ifCond .eq off, 3)) (ht : (pc : Int) + off = (tgt : Int)) (kt : x = 0 → Ev K M d tgt lv st G post) (kf : ¬ x = 0 → Ev K M d (pc + 3) lv st G post) : Ev K M d pc lv (.int x :: st) G post := by
  by_cases hq : x = 0
  · exact E_go1 (fun _ _ _ _ _ _ _ _ _ _ _ _ _ _ _ hx hb _ _ k => lv_if_eq hx hb hdg ht (fun _ => k) (fun n => absurd hq n)) (kt hq)
  · exact E_go1 (fun _ _ _ _ _ _ _ _ _ _ _ _ _ _ _ hx hb _ _ k => lv_if_eq hx hb hdg ht (fun n => absurd n hq) (fun _ => k)) (kf hq)
theorem E_if_ne {x : Int32} {off : Int} {tgt : Nat} (hdg : decode M.2.1 pc = .ok (.ifCond .ne off, 3)) (ht : (pc : Int) + off = (tgt : Int)) (kt : ¬ x = 0 → Ev K M d tgt lv st G post) (kf : x = 0 → Ev K M d (pc + 3) lv st G post) : Ev K M d pc lv (.int x :: st) G post := by
  by_cases hq : x = 0
  · exact E_go1 (fun _ _ _ _ _ _ _ _ _ _ _ _ _ _ _ hx hb _ _ k => lv_if_ne hx hb hdg ht (fun n => absurd hq n) (fun _ => k)) (kf hq)
  · exact E_go1 (fun _ _ _ _ _ _ _ _ _ _ _ _ _ _ _ hx hb _ _ k => lv_if_ne hx hb hdg ht (fun _ => k) (fun n => absurd n hq)) (kt hq)
theorem E_if_lt {x : Int32} {off : Int} {tgt : Nat} (hdg : decode M.2.1 pc = .ok (.ifCond .lt off, 3)) (ht : (pc : Int) + off = (tgt : Int)) (kt : x < 0 → Ev K M d tgt lv st G post) (kf : ¬ x < 0 → Ev K M d (pc + 3) lv st G post) : Ev K M d pc lv (.int x :: st) G post := by
  by_cases hq : x < 0
  · exact E_go1 (fun _ _ _ _ _ _ _ _ _ _ _ _ _ _ _ hx hb _ _ k => lv_if_lt hx hb hdg ht (fun _ => k) (fun n => absurd hq n)) (kt hq)
  · exact E_go1 (fun _ _ _ _ _ _ _ _ _ _ _ _ _ _ _ hx hb _ _ k => lv_if_lt hx hb hdg ht (fun n => absurd n hq) (fun _ => k)) (kf hq)
theorem E_if_ge {x : Int32} {off : Int} {tgt : Nat} (hdg : decode M.2.1 pc = .ok (.ifCond .ge off, 3)) (ht : (pc : Int) + off = (tgt : Int)) (kt : 0 ≤ x → Ev K M d tgt lv st G post) (kf : ¬ 0 ≤ x → Ev K M d (pc + 3) lv st G post) : Ev K M d pc lv (.int x :: st) G post := by
  by_cases hq : 0 ≤ x
  · exact E_go1 (fun _ _ _ _ _ _ _ _ _ _ _ _ _ _ _ hx hb _ _ k => lv_if_ge hx hb hdg ht (fun _ => k) (fun n => absurd hq n)) (kt hq)
  · exact E_go1 (fun _ _ _ _ _ _ _ _ _ _ _ _ _ _ _ hx hb _ _ k => lv_if_ge hx hb hdg ht (fun n => absurd n hq) (fun _ => k)) (kf hq)
theorem E_if_gt {x : Int32} {off : Int} {tgt : Nat} (hdg : decode M.2.1 pc = .ok (.ifCond .gt off, 3)) (ht : (pc : Int) + off = (tgt : Int)) (kt : 0 < x → Ev K M d tgt lv st G post) (kf : ¬ 0 < x → Ev K M d (pc + 3) lv st G post) : Ev K M d pc lv (.int x :: st) G post := by
  by_cases hq : 0 < x
  · exact E_go1 (fun _ _ _ _ _ _ _ _ _ _ _ _ _ _ _ hx hb _ _ k => lv_if_gt hx hb hdg ht (fun _ => k) (fun n => absurd hq n)) (kt hq)
  · exact E_go1 (fun _ _ _ _ _ _ _ _ _ _ _ _ _ _ _ hx hb _ _ k => lv_if_gt hx hb hdg ht (fun n => absurd n hq) (fun _ => k)) (kf hq)
theorem E_if_le {x : Int32} {off : Int} {tgt : Nat} (hdg : decode M.2.1 pc = .ok (.ifCond .le off, 3)) (ht : (pc : Int) + off = (tgt : Int)) (kt : x ≤ 0 → Ev K M d tgt lv st G post) (kf : ¬ x ≤ 0 → Ev K M d (pc + 3) lv st G post) : Ev K M d pc lv (.int x :: st) G post := by
  by_cases hq : x ≤ 0
  · exact E_go1 (fun _ _ _ _ _ _ _ _ _ _ _ _ _ _ _ hx hb _ _ k => lv_if_le hx hb hdg ht (fun _ => k) (fun n => absurd hq n)) (kt hq)
  · exact E_go1 (fun _ _ _ _ _ _ _ _ _ _ _ _ _ _ _ hx hb _ _ k => lv_if_le hx hb hdg ht (fun n => absurd n hq) (fun _ => k)) (kf hq)
theorem E_icmp_eq {x y : Int32} {off : Int} {tgt : Nat} (hdg : decode M.2.1 pc = .ok (.if_icmp .eq off, 3)) (ht : (pc : Int) + off = (tgt : Int)) (kt : x = y → Ev K M d tgt lv st G post) (kf : ¬ x = y → Ev K M d (pc + 3) lv st G post) : Ev K M d pc lv (.int y :: .int x :: st) G post := by
  by_cases hq : x = y
  · exact E_go1 (fun _ _ _ _ _ _ _ _ _ _ _ _ _ _ _ hx hb _ _ k => lv_icmp_eq hx hb hdg ht (fun _ => k) (fun n => absurd hq n)) (kt hq)
  · exact E_go1 (fun _ _ _ _ _ _ _ _ _ _ _ _ _ _ _ hx hb _ _ k => lv_icmp_eq hx hb hdg ht (fun n => absurd n hq) (fun _ => k)) (kf hq)
theorem E_icmp_ne {x y : Int32} {off : Int} {tgt : Nat} (hdg : decode M.2.1 pc = .ok (.if_icmp .ne off, 3)) (ht : (pc : Int) + off = (tgt : Int)) (kt : ¬ x = y → Ev K M d tgt lv st G post) (kf : x = y → Ev K M d (pc + 3) lv st G post) : Ev K M d pc lv (.int y :: .int x :: st) G post := by
  by_cases hq : x = y
  · exact E_go1 (fun _ _ _ _ _ _ _ _ _ _ _ _ _ _ _ hx hb _ _ k => lv_icmp_ne hx hb hdg ht (fun n => absurd hq n) (fun _ => k)) (kf hq)
  · exact E_go1 (fun _ _ _ _ _ _ _ _ _ _ _ _ _ _ _ hx hb _ _ k => lv_icmp_ne hx hb hdg ht (fun _ => k) (fun n => absurd n hq)) (kt hq)
theorem E_icmp_lt {x y : Int32} {off : Int} {tgt : Nat} (hdg : decode M.2.1 pc = .ok (.if_icmp .lt off, 3)) (ht : (pc : Int) + off = (tgt : Int)) (kt : x < y → Ev K M d tgt lv st G post) (kf : ¬ x < y → Ev K M d (pc + 3) lv st G post) : Ev K M d pc lv (.int y :: .int x :: st) G post := by
  by_cases hq : x < y
  · exact E_go1 (fun _ _ _ _ _ _ _ _ _ _ _ _ _ _ _ hx hb _ _ k => lv_icmp_lt hx hb hdg ht (fun _ => k) (fun n => absurd hq n)) (kt hq)
  · exact E_go1 (fun _ _ _ _ _ _ _ _ _ _ _ _ _ _ _ hx hb _ _ k => lv_icmp_lt hx hb hdg ht (fun n => absurd n hq) (fun _ => k)) (kf hq)
theorem E_icmp_ge {x y : Int32} {off : Int} {tgt : Nat} (hdg : decode M.2.1 pc = .ok (.if_icmp .ge off, 3)) (ht : (pc : Int) + off = (tgt : Int)) (kt : y ≤ x → Ev K M d tgt lv st G post) (kf : ¬ y ≤ x → Ev K M d (pc + 3) lv st G post) : Ev K M d pc lv (.int y :: .int x :: st) G post := by
  by_cases hq : y ≤ x
  · exact E_go1 (fun _ _ _ _ _ _ _ _ _ _ _ _ _ _ _ hx hb _ _ k => lv_icmp_ge hx hb hdg ht (fun _ => k) (fun n => absurd hq n)) (kt hq)
  · exact E_go1 (fun _ _ _ _ _ _ _ _ _ _ _ _ _ _ _ hx hb _ _ k => lv_icmp_ge hx hb hdg ht (fun n => absurd n hq) (fun _ => k)) (kf hq)
theorem E_icmp_gt {x y : Int32} {off : Int} {tgt : Nat} (hdg : decode M.2.1 pc = .ok (.if_icmp .gt off, 3)) (ht : (pc : Int) + off = (tgt : Int)) (kt : y < x → Ev K M d tgt lv st G post) (kf : ¬ y < x → Ev K M d (pc + 3) lv st G post) : Ev K M d pc lv (.int y :: .int x :: st) G post := by
  by_cases hq : y < x
  · exact E_go1 (fun _ _ _ _ _ _ _ _ _ _ _ _ _ _ _ hx hb _ _ k => lv_icmp_gt hx hb hdg ht (fun _ => k) (fun n => absurd hq n)) (kt hq)
  · exact E_go1 (fun _ _ _ _ _ _ _ _ _ _ _ _ _ _ _ hx hb _ _ k => lv_icmp_gt hx hb hdg ht (fun n => absurd n hq) (fun _ => k)) (kf hq)
theorem E_icmp_le {x y : Int32} {off : Int} {tgt : Nat} (hdg : decode M.2.1 pc = .ok (.if_icmp .le off, 3)) (ht : (pc : Int) + off = (tgt : Int)) (kt : x ≤ y → Ev K M d tgt lv st G post) (kf : ¬ x ≤ y → Ev K M d (pc + 3) lv st G post) : Ev K M d pc lv (.int y :: .int x :: st) G post := by
  by_cases hq : x ≤ y
  · exact E_go1 (fun _ _ _ _ _ _ _ _ _ _ _ _ _ _ _ hx hb _ _ k => lv_icmp_le hx hb hdg ht (fun _ => k) (fun n => absurd hq n)) (kt hq)
  · exact E_go1 (fun _ _ _ _ _ _ _ _ _ _ _ _ _ _ _ hx hb _ _ k => lv_icmp_le hx hb hdg ht (fun n => absurd n hq) (fun _ => k)) (kf hq)
theorem E_lookup {dflt : Int} {ps : Array (Int × Int)} {len : Nat} {x : Int32} {off : Int} {tgt : Nat} (hdg : decode M.2.1 pc = .ok (.lookupswitch dflt ps, len)) (hp : (ps.toList.zip (ps.toList.drop 1)).all (fun (a, next) => a.1 < next.1) = true) (ho : Op.lookupswitch.offset ps.toList dflt x.toInt = off) (ht : (pc : Int) + off = (tgt : Int)) (h : Ev K M d tgt lv st G post) : Ev K M d pc lv (.int x :: st) G post :=
  E_go1 (fun _ _ _ _ _ _ _ _ _ _ _ _ _ _ _ hx hb _ _ k => lv_lookup hx hb hdg hp ho ht k) h
theorem E_tableOut {dflt lo hi : Int} {offs : Array Int} {len : Nat} {x : Int32} {tgt : Nat} (hdg : decode M.2.1 pc = .ok (.tableswitch dflt lo hi offs, len)) (hq : x.toInt < lo ∨ hi < x.toInt) (ht : (pc : Int) + dflt = (tgt : Int)) (h : Ev K M d tgt lv st G post) : Ev K M d pc lv (.int x :: st) G post :=
  E_go1 (fun _ _ _ _ _ _ _ _ _ _ _ _ _ _ _ hx hb _ _ k => lv_tableOut hx hb hdg hq ht k) h
theorem E_tableIn {dflt lo hi : Int} {offs : Array Int} {len : Nat} {x : Int32} {off : Int} {tgt : Nat} (hdg : decode M.2.1 pc = .ok (.tableswitch dflt lo hi offs, len)) (h1 : ¬ x.toInt < lo) (h2 : ¬ hi < x.toInt) (ho : offs[(x.toInt - lo).toNat]? = some off) (ht : (pc : Int) + off = (tgt : Int)) (h : Ev K M d tgt lv st G post) : Ev K M d pc lv (.int x :: st) G post :=
  E_go1 (fun _ _ _ _ _ _ _ _ _ _ _ _ _ _ _ hx hb _ _ k => lv_tableIn hx hb hdg h1 h2 ho ht k) h
end RULESB

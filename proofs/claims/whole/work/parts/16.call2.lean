section CALLS2
variable {K : KT} {M : MT} {d pc : Nat} {lv : List (Nat × Value)} {st : List Value} {G : St} {post : Option Value → St → Prop}
theorem E_callS {M2 : MT} {d2 idx n : Nat} {as stk : List Value} {post1 : Option Value → St → Prop} (hM : CM M2 n) (hV : CS M.1.cls idx M2) (hstk : stk = as.reverse ++ st) (hn : as.length = n) (hd : d2 < d) (hlen : (lg_sl as).length ≤ M2.2.2.1) (hroom : (st.map fun v => v.category).sum ≤ 8) (hdg : decode M.2.1 pc = .ok (.invokestatic idx, 3))
    (hc : EvC K M2 d2 as G post1) (h : ∀ r G1, post1 r G1 → Ev K M d (pc + 3) lv (r.toList ++ st) G1 post) : Ev K M d pc lv stk G post := by
  obtain ⟨r, G1, hJ, hp1⟩ := hc
  subst hstk
  have hm := met_of_J hJ hM.2.2.1 hlen
  refine E_goA hJ.1 hJ.2.1 (fun p e R s m args below meth c H locs cells slots ls Q C F hH hF hl hlv hd1 hd2 hcs hss kk => ?_) (h r G1 hp1)
  have cb : CallB R s args M.1.cls idx M2.1 M2.2.1 M2.2.2.1 M2.2.2.2 (mws M2) (mrm d2 (nx G1 - nx G) (su G1 - su G)) (nx G1 - nx G) (su G1 - su G) n := callB_of n C.2.2.2.2.2.1 (mws_good hM.1) rfl rfl rfl (C.2.2.2.2.2.1 _ hM.2.1) (C.2.2.2.2.2.1 _ hV.1) hM.2.2.2.1 ⟨(by show d2 + 1 ≤ R.frames; omega), (by show 8 + (M2.2.2.1 + 11) + 41 * d2 ≤ R.locals; have := hM.2.2.2.2; omega)⟩
  have hrun := va_runS (g := F0 m pc ls ((as.reverse ++ st).map (cv K))) (As := as.map (cv K)) (rest := st.map (cv K)) (H := H) (locs := locs) (cells := cells) (slots := slots) (e := e) (below := below) (meth := meth) (cc := M.2.1) (nL := M.2.2.1) ⟨C.1, C.2.1, C.2.2.1, C.2.2.2.2.1, C.2.2.2.2.2.1⟩ hm ⟨cb, C.2.2.2.2.2.1 _ hV.2⟩ ⟨mPc_blind, fun U hU hW => mPc_at (as := as) F hH hF U hU hW⟩ rfl (by rw [List.length_map]; exact hn) hlv.1 (by simp) (lv_room (by rw [cat_sum]; exact hroom)) hdg ⟨hcs, hss⟩
  refine W_callG hrun hF hl (fun H1 locs1 a1 a2 a3 => ?_)
  rw [← tl_map]
  exact kk H1 locs1 a1 a2 a3
theorem E_callI {M2 : MT} {d2 idx n i : Nat} {as stk : List Value} {post1 : Option Value → St → Prop} (hM : CM M2 n) (hr : M2.2.2.2 = none) (hV : CI M.1.cls idx M2) (hstk : stk = as.reverse ++ .ref i :: st) (hn : as.length = n) (hd : d2 < d) (hlen : (lg_sl (.ref i :: as)).length ≤ M2.2.2.1) (hroom : (st.map fun v => v.category).sum ≤ 8) (hdg : decode M.2.1 pc = .ok (.invokespecial idx, 3))
    (hc : EvC K M2 d2 (.ref i :: as) G post1) (h : ∀ r G1, post1 r G1 → Ev K M d (pc + 3) lv (r.toList ++ st) G1 post) : Ev K M d pc lv stk G post := by
  obtain ⟨r, G1, hJ, hp1⟩ := hc
  subst hstk
  have hm := met_of_J hJ hM.2.2.1 hlen
  refine E_goA hJ.1 hJ.2.1 (fun p e R s m args below meth c H locs cells slots ls Q C F hH hF hl hlv hd1 hd2 hcs hss kk => ?_) (h r G1 hp1)
  have cb : CallB R s args M.1.cls idx M2.1 M2.2.1 M2.2.2.1 M2.2.2.2 (mws M2) (mrm d2 (nx G1 - nx G) (su G1 - su G)) (nx G1 - nx G) (su G1 - su G) n := callB_of n C.2.2.2.2.2.1 (mws_good hM.1) rfl rfl rfl (C.2.2.2.2.2.1 _ hM.2.1) (C.2.2.2.2.2.1 _ hV.1) hM.2.2.2.1 ⟨(by show d2 + 1 ≤ R.frames; omega), (by show 8 + (M2.2.2.1 + 11) + 41 * d2 ≤ R.locals; have := hM.2.2.2.2; omega)⟩
  rw [hr] at cb
  have hrun := va_runI (g := F0 m pc ls ((as.reverse ++ .ref i :: st).map (cv K))) (As := as.map (cv K)) (rest := st.map (cv K)) (b := kb K + i) (H := H) (locs := locs) (cells := cells) (slots := slots) (e := e) (below := below) (meth := meth) (cc := M.2.1) (nL := M.2.2.1) ⟨C.1, C.2.1, C.2.2.1, C.2.2.2.2.1, C.2.2.2.2.2.1⟩ hm ⟨cb, hV.2.1, C.2.2.2.2.2.1 _ hV.2.2⟩ ⟨mPc_blind, fun U hU hW => mPc_at (as := .ref i :: as) F hH hF U hU hW⟩ rfl (by rw [List.length_map]; exact hn) hlv.1 (map_rev_app as (.ref i)) (lv_room (by rw [cat_sum]; exact hroom)) hdg ⟨hcs, hss⟩
  refine W_callG hrun hF hl (fun H1 locs1 a1 a2 a3 => ?_)
  rw [← tl_map]
  exact kk H1 locs1 a1 a2 a3
theorem E_callIN {M2 : MT} {d2 idx n i : Nat} {host : String} {as stk : List Value} {post1 : Option Value → St → Prop} (hM : CM M2 n) (hr : M2.2.2.2 = none) (hV : CIN M.1.cls idx M2 host) (hstk : stk = as.reverse ++ .ref i :: st) (hn : as.length = n) (hd : d2 < d) (hlen : (lg_sl (.ref i :: as)).length ≤ M2.2.2.1) (hroom : (st.map fun v => v.category).sum ≤ 8) (hdg : decode M.2.1 pc = .ok (.invokespecial idx, 3))
    (hc : EvC K M2 d2 (.ref i :: as) G post1) (h : ∀ r G1, post1 r G1 → Ev K M d (pc + 3) lv (r.toList ++ st) G1 post) : Ev K M d pc lv stk G post := by
  obtain ⟨r, G1, hJ, hp1⟩ := hc
  subst hstk
  have hm := met_of_J hJ hM.2.2.1 hlen
  refine E_goA hJ.1 hJ.2.1 (fun p e R s m args below meth c H locs cells slots ls Q C F hH hF hl hlv hd1 hd2 hcs hss kk => ?_) (h r G1 hp1)
  have cb : va_CN R s args M.1.cls idx M2.1 host M2.2.1 M2.2.2.1 M2.2.2.2 (mws M2) (mrm d2 (nx G1 - nx G) (su G1 - su G)) (nx G1 - nx G) (su G1 - su G) n := by
    refine ⟨⟨rfl, rfl, (by show d2 + 1 ≤ R.frames; omega), (by show 8 + (M2.2.2.1 + 11) + 41 * d2 ≤ R.locals; have := hM.2.2.2.2; omega), pay_in C.2.2.2.2.2.1 (mws_good hM.1), List.mem_cons_self⟩, C.2.2.2.2.2.1 _ hM.1, C.2.2.2.2.2.1 _ hM.2.1, ⟨hM.2.2.2.1.1, hM.2.2.2.1.2.1⟩, fun sig h => ?_, va_Nw.use rfl (F.2.2.2.2.2.2.2.1 _ hV.1 rfl)⟩
    have h2 := hM.2.2.2.1.2.2
    rw [h] at h2
    exact (Option.some.inj h2).symm
  rw [hr] at cb
  have hrun := va_runIN (Ts := lw_g) (g := F0 m pc ls ((as.reverse ++ .ref i :: st).map (cv K))) (As := as.map (cv K)) (rest := st.map (cv K)) (b := kb K + i) (H := H) (locs := locs) (cells := cells) (slots := slots) (e := e) (below := below) (meth := meth) (cc := M.2.1) (nL := M.2.2.1) ⟨C.1, C.2.1, C.2.2.1, C.2.2.2.2.1, C.2.2.2.2.2.1⟩ hm ⟨cb, hV.2.1, C.2.2.2.2.2.1 _ hV.2.2⟩ ⟨mPc_blind, fun U hU hW => mPc_at (as := .ref i :: as) F hH hF U hU hW⟩ rfl (by rw [List.length_map]; exact hn) hlv.1 (map_rev_app as (.ref i)) (lv_room (by rw [cat_sum]; exact hroom)) hdg ⟨hcs, hss⟩
  refine W_callG hrun hF hl (fun H1 locs1 a1 a2 a3 => ?_)
  rw [← tl_map]
  exact kk H1 locs1 a1 a2 a3
theorem E_objInit {idx i : Nat} (hd : 0 < d) (hl : Cond.methodLink M.1.cls idx objectInit ∈ lw_g) (hin : Cond.instanceMethod objectInit ∈ lw_g) (hco : Cond.code objectInit ⟨#[0xb1]⟩ 1 none ∈ lw_g) (hroom : (st.map fun v => v.category).sum ≤ 8) (hdg : decode M.2.1 pc = .ok (.invokespecial idx, 3)) (h : Ev K M d (pc + 3) lv st G post) : Ev K M d pc lv (.ref i :: st) G post := by
  refine E_goA (G1 := G) (Nat.le_refl _) (Nat.le_refl _) (fun p e R s m args below meth c H locs cells slots ls Q C F hH hF hl2 hlv hd1 hd2 hcs hss kk => ?_) h
  have k1 := kk H locs hH hF hl2
  rw [Nat.sub_self, Nat.sub_self] at k1
  refine W.objInit C.1 C.2.1 C.2.2.2.2.1 (C.2.2.2.2.2.1 _ hl) (C.2.2.2.2.2.1 _ hin) (C.2.2.2.2.2.1 _ hco) rfl (hlv.1.trans C.2.2.1.symm) rfl hdg (by omega) ?_ k1
  have h9 := lv_room (m := m) (pc := pc) (ls := ls) (rest := (.ref (kb K + i) :: st.map (cv K))) (st := st.map (cv K)) (by rw [cat_sum]; exact hroom)
  exact Nat.le_trans (Nat.add_le_add_right h9 12) (by omega)
/-! POWERS, the script -/
theorem cv_f0 (K : KT) : cv K (.float 0) = .ref (kp K) := by simp [cv]
theorem cv_f1 (K : KT) : cv K (.float 1) = .ref (ks K) := by simp [cv]
theorem E_getPow {idx : Nat} (hl : Cond.fieldLink M.1.cls idx "WordsAndRows$Words" "POWERS" "[J" ∈ lw_g) (hdg : decode M.2.1 pc = .ok (.getstatic idx, 3)) (h : Ev K M d (pc + 3) lv (.float 0 :: st) G post) : Ev K M d pc lv st G post := by
  refine E_goR (fun p e R s m args below meth c H locs cells slots ls Q C F hH hFr kk => ?_) h
  obtain ⟨cf, kf, fi, f, a, cell, h1, h2, h3, h4, h5, h6, h7, h8⟩ := F.2.1
  rw [List.map_cons, cv_f0] at kk
  exact W.gets C.1 C.2.1 C.2.2.2.2.1 (C.2.2.2.2.2.1 _ hl) h1 h2 h3 h4 (by rw [hFr a (Nat.not_lt.mp h8)]; exact h5) (fun e => by rw [e] at h6; cases h6) h7 rfl hdg kk
theorem E_ldPow {j : Int32} (hin : vp_in j 9) (hdg : decode M.2.1 pc = .ok (.laload, 1)) (h : Ev K M d (pc + 1) lv (.long (pw j.toNatClampNeg) :: st) G post) : Ev K M d pc lv (.int j :: .float 0 :: st) G post := by
  refine E_goR (fun p e R s m args below meth c H locs cells slots ls Q C F hH hFr kk => ?_) h
  obtain ⟨cell, a1, a2, a3, a4, a5⟩ := F.2.2.1
  rw [List.map_cons, List.map_cons, cv_f0]
  exact W.lald (v := .long (pw j.toNatClampNeg)) C.1 C.2.1 (by rw [hFr _ F.2.2.2.1]; exact a1) a2 a3 (fun q => hin (q.elim Or.inl (fun q => Or.inr (Nat.le_trans a4 q)))) (a5 _ (arr_lt hin)) rfl rfl hdg kk
theorem E_ldScr {j : Int32} (hin : vp_in j (kl K)) (hdg : decode M.2.1 pc = .ok (.iaload, 1)) (h : Ev K M d (pc + 1) lv (.int (kx K j.toNatClampNeg) :: st) G post) : Ev K M d pc lv (.int j :: .float 1 :: st) G post := by
  refine E_goR (fun p e R s m args below meth c H locs cells slots ls Q C F hH hFr kk => ?_) h
  obtain ⟨cell, a1, a2, a3, a4, a5⟩ := F.2.2.2.2.1
  rw [List.map_cons, List.map_cons, cv_f1]
  exact W.iald (v := .int (kx K j.toNatClampNeg)) C.1 C.2.1 (by rw [hFr _ F.2.2.2.2.2.1]; exact a1) a2 a3 (by rw [a4]; exact hin) (a5 _ (arr_lt hin)) rfl rfl hdg kk
theorem E_lenScr (hdg : decode M.2.1 pc = .ok (.arraylength, 1)) (h : Ev K M d (pc + 1) lv (.int (Int32.ofNat (kl K)) :: st) G post) : Ev K M d pc lv (.float 1 :: st) G post := by
  refine E_goR (fun p e R s m args below meth c H locs cells slots ls Q C F hH hFr kk => ?_) h
  obtain ⟨cell, a1, a2, a3, a4, a5⟩ := F.2.2.2.2.1
  rw [List.map_cons, cv_f1]
  exact W.alen (n := Int32.ofNat (kl K)) C.1 C.2.1 (by rw [hFr _ F.2.2.2.2.2.1]; exact a1) a2 (by rw [a4]; first | done | rfl) rfl rfl hdg kk
/-! System.arraycopy between two arrays of one kind -/
theorem W_copy {p : Program} {l : Launch} {e : Env} {R : Room} {s : State} {m : MethodId} {args : Array Value} {below : List Frame} {meth : Method} {c : Code} {H : Heap} {locs : List Loc} {cells slots : Nat} {Q : State → Prop} {cc : ByteArray} {pc : Nat} {ls : Array Slot} {rest : List Value} (hexec : p.tables.exec = Jvm.exec) (hb : c.code = cc) (hml : c.maxLocals = ls.size) {own : String} {index : Nat} (hown : s.vm.findClass own = some m.cls) (hlink : (Cond.methodLink own index arraycopyName).before args s = true) (hnat : (Cond.native arraycopyName).before args s = true) (hstat : (Cond.static arraycopyName).before args s = true) (hini : (Cond.initialized "java/lang/System").before args s = true)
    {α : Type} (mk : α → Value) {a0 a : Nat} {c0 c1 : ClassId} {n0 n1 : Nat} {f g : Nat → α} {ty : FieldType} (hc0 : H[a0]? = some (arrV c0 n0 (fun j => mk (f j)))) (hc1 : H[a]? = some (arrV c1 n1 (fun j => mk (g j)))) (ht0 : ArrOfT s c0 ty) (ht1 : ArrOfT s c1 ty) (hprim : refKind ty = false)
    {sp dp n : Int32} (h1 : ¬ sp < 0) (h2 : ¬ dp < 0) (h3 : ¬ n < 0) (h4 : sp.toNatClampNeg + n.toNatClampNeg ≤ n0) (h5 : dp.toNatClampNeg + n.toNatClampNeg ≤ n1) (hfit : ∀ x, fits ty (mk x) = true) (hnr : ∀ x, ∀ a, mk x ≠ .ref a)
    (hframes : 1 ≤ R.frames) (hlocals : (rest.map fun v => v.category).sum + (nativeFrameWords "java/lang/System" "arraycopy" 5 + 11) ≤ R.locals) (hdg : decode cc pc = .ok (.invokestatic index, 3))
    (kk : ∀ (H1 : Heap) (L : List Loc), H1[a]? = some (arrV c1 n1 (fun j => mk (va_cpy f g sp.toNatClampNeg dp.toNatClampNeg n.toNatClampNeg j))) → H1.size = H.size → (∀ q, q ≠ a → H1[q]? = H[q]?) → (∀ q ∈ L, q.base = a) → W p l e R s m args below meth c H1 (locs ++ L) cells slots Q (F0 m (pc + 3) ls rest)) : W p l e R s m args below meth c H locs cells slots Q (F0 m pc ls (.int n :: .int dp :: .ref a :: .int sp :: .ref a0 :: rest)) := by
  have nn : ∀ z : Int32, ¬ z < 0 → z.toInt = (z.toNatClampNeg : Int) := by
    intro z hz
    have hz0 : (0 : Int) ≤ z.toInt := by
      have := Int32.not_lt.mp hz
      simpa using Int32.le_iff_toInt_le.mp this
    show z.toInt = ((z.toInt.toNat : Nat) : Int)
    omega
  intro T hT X
  obtain ⟨-, k0, hk0, cm0, hkk0⟩ := ht0 n0 (fun j => mk (f j))
  obtain ⟨-, k1, hk1, cm1, hkk1⟩ := ht1 n1 (fun j => mk (g j))
  obtain ⟨vm', X', step⟩ := X.arraycopy hexec hown hlink hnat hstat hini (src := a0) (dst := a) (cs := arrV c0 n0 (fun j => mk (f j))) (cd := arrV c1 n1 (fun j => mk (g j))) (srcPos := sp) (destPos := dp) (n := n) (by rw [hT]; exact hc0) (by rw [hT]; exact hc1)
    (fun _ h => by cases h) (fun _ h => by cases h) (fun h => by cases h) (fun h => by cases h) hk0 hk1 hkk0 hkk1 (by simp [hprim]) h1 h2 h3
    (by rw [nn sp h1, nn n h3]; show ¬ _ > ((arrV c0 n0 (fun j => mk (f j))).slots.size : Int); rw [arrV_size]; omega)
    (by rw [nn dp h2, nn n h3]; show ¬ _ > ((arrV c1 n1 (fun j => mk (g j))).slots.size : Int); rw [arrV_size]; omega)
    (fun vm₁ _ i hi => by
      have e : (arrV c0 n0 (fun j => mk (f j))).slots.getD (sp.toNatClampNeg + i) .null = mk (f (sp.toNatClampNeg + i)) := by
        rw [Array.getD_eq_getD_getElem?, arrV_read _ _ (by omega)]
        rfl
      refine ⟨?_, ?_⟩
      · rw [e]
        exact hfit _
      · rw [e]
        have hq := hnr (f (sp.toNatClampNeg + i))
        generalize mk (f (sp.toNatClampNeg + i)) = v at hq ⊢
        cases v <;> first | exact trivial | exact absurd rfl (hq _))
    (g := F0 m pc ls (.int n :: .int dp :: .ref a :: .int sp :: .ref a0 :: rest)) rfl (by rw [hml]) (rest := rest) rfl (by rw [hb]; exact hdg) hframes (by show 2 * 0 + _ + _ ≤ _; omega)
  have e1 : copied (arrV c0 n0 (fun j => mk (f j))) (arrV c1 n1 (fun j => mk (g j))) sp dp n = arrV c1 n1 (fun j => mk (va_cpy f g sp.toNatClampNeg dp.toNatClampNeg n.toNatClampNeg j)) := va_copied mk c0 c1 f g h4
  rw [e1] at X' step
  have hl : a < H.size := (Array.getElem?_eq_some_iff.mp hc1).1
  generalize arrV c1 n1 (fun j => mk (va_cpy f g sp.toNatClampNeg dp.toNatClampNeg n.toNatClampNeg j)) = nc at X' step kk
  have hheap : ((T.setVm vm').setCell a nc).heap = H.setIfInBounds a nc := by rw [← hT]; rfl
  obtain ⟨t, a1, b1⟩ := kk _ _ (show (H.setIfInBounds a nc)[a]? = some _ by simp [Array.getElem?_setIfInBounds, hl]) (by simp) (fun q hq => by simp [Array.getElem?_setIfInBounds, Ne.symm hq]) (fun q hq => by
      obtain ⟨z, -, hz⟩ := List.mem_map.mp hq
      rw [← hz]) _ hheap X'
  exact ⟨t, step t a1, b1⟩
theorem nfw_le : nativeFrameWords "java/lang/System" "arraycopy" 5 + 11 ≤ 33 := by decide +kernel
def uAI (G : St) (i : Nat) (f : Nat → Int32) : St := (va_up G.1 i f, G.2)
def uAL (G : St) (i : Nat) (f : Nat → Int64) : St := (G.1, va_up G.2.1 i f, G.2.2)
theorem ag_uAI {G : St} {i j : Nat} {f : Nat → Int32} (h : j ≠ i) : Ag G (uAI G i f) j := ⟨up_ne _ _ h, rfl, rfl, rfl, rfl⟩
theorem ag_uAL {G : St} {i j : Nat} {f : Nat → Int64} (h : j ≠ i) : Ag G (uAL G i f) j := ⟨rfl, up_ne _ _ h, rfl, rfl, rfl⟩
theorem locs_app {locs L : List Loc} {a : Nat} (h : ∀ q ∈ locs, kb K < q.base) (hL : ∀ q ∈ L, q.base = a) (ha : kb K < a) : ∀ q ∈ locs ++ L, kb K < q.base := by
  intro q hq
  rcases List.mem_append.mp hq with h1 | h1
  · exact h q h1
  · rw [hL q h1]; exact ha
theorem E_copyI {idx a b : Nat} {sp dp n : Int32} (hd : 0 < d) (hl : Cond.methodLink M.1.cls idx arraycopyName ∈ lw_g) (hnat : Cond.native arraycopyName ∈ lw_g) (hst : Cond.static arraycopyName ∈ lw_g) (hini : Cond.initialized "java/lang/System" ∈ lw_g) (hka : sK G a = 100) (hkb : sK G b = 100) (ha0 : 0 < a) (ha : a < nx G) (hb0 : 0 < b) (hb : b < nx G) (h1 : ¬ sp < 0) (h2 : ¬ dp < 0) (h3 : ¬ n < 0) (h4 : sp.toNatClampNeg + n.toNatClampNeg ≤ sN G a) (h5 : dp.toNatClampNeg + n.toNatClampNeg ≤ sN G b) (hroom : (st.map fun v => v.category).sum ≤ 8) (hdg : decode M.2.1 pc = .ok (.invokestatic idx, 3))
    (h : Ev K M d (pc + 3) lv st (uAI G b (va_cpy (sI G a) (sI G b) sp.toNatClampNeg dp.toNatClampNeg n.toNatClampNeg)) post) : Ev K M d pc lv (.int n :: .int dp :: .ref b :: .int sp :: .ref a :: st) G post := by
  refine E_goA (G1 := uAI G b (va_cpy (sI G a) (sI G b) sp.toNatClampNeg dp.toNatClampNeg n.toNatClampNeg)) (Nat.le_refl _) (Nat.le_refl _) (fun p e R s m args below meth c H locs cells slots ls Q C F hH hF hl2 hlv hd1 hd2 hcs hss kk => ?_) h
  refine W_copy C.1 C.2.1 (C.2.2.1.trans hlv.1.symm) C.2.2.2.2.1 (C.2.2.2.2.2.1 _ hl) (C.2.2.2.2.2.1 _ hnat) (C.2.2.2.2.2.1 _ hst) (C.2.2.2.2.2.1 _ hini) (fun z => .int z) ((hH.2.2 a ha0 ha).1 hka) ((hH.2.2 b hb0 hb).1 hkb) (F.1.2 0 _ rfl).1 (F.1.2 0 _ rfl).1 rfl h1 h2 h3 h4 h5 (fun _ => rfl) (fun _ _ q => by cases q) (by omega) (by rw [cat_sum]; have := nfw_le; omega) hdg (fun H1 L e1 z oq hL => ?_)
  have k1 := kk H1 (locs ++ L) (hH.put rfl z oq (fun j hj => ag_uAI hj) ?_) (hF.put hb0 oq) (locs_app hl2 hL (by omega))
  · have e9 : nx (uAI G b (va_cpy (sI G a) (sI G b) sp.toNatClampNeg dp.toNatClampNeg n.toNatClampNeg)) - nx G = 0 := Nat.sub_self _
    have e8 : su (uAI G b (va_cpy (sI G a) (sI G b) sp.toNatClampNeg dp.toNatClampNeg n.toNatClampNeg)) - su G = 0 := Nat.sub_self _
    rw [e9, e8] at k1
    exact k1
  · have hk1 : sK (uAI G b (va_cpy (sI G a) (sI G b) sp.toNatClampNeg dp.toNatClampNeg n.toNatClampNeg)) b = 100 := hkb
    refine ⟨fun _ => ?_, fun q => absurd q (by omega), fun q => absurd q (by omega), fun q => absurd q (by omega), fun q => absurd q (by omega)⟩
    rw [e1, show sI (uAI G b (va_cpy (sI G a) (sI G b) sp.toNatClampNeg dp.toNatClampNeg n.toNatClampNeg)) b = _ from up_at _ _ _]; rfl
theorem E_copyL {idx a b : Nat} {sp dp n : Int32} (hd : 0 < d) (hl : Cond.methodLink M.1.cls idx arraycopyName ∈ lw_g) (hnat : Cond.native arraycopyName ∈ lw_g) (hst : Cond.static arraycopyName ∈ lw_g) (hini : Cond.initialized "java/lang/System" ∈ lw_g) (hka : sK G a = 101) (hkb : sK G b = 101) (ha0 : 0 < a) (ha : a < nx G) (hb0 : 0 < b) (hb : b < nx G) (h1 : ¬ sp < 0) (h2 : ¬ dp < 0) (h3 : ¬ n < 0) (h4 : sp.toNatClampNeg + n.toNatClampNeg ≤ sN G a) (h5 : dp.toNatClampNeg + n.toNatClampNeg ≤ sN G b) (hroom : (st.map fun v => v.category).sum ≤ 8) (hdg : decode M.2.1 pc = .ok (.invokestatic idx, 3))
    (h : Ev K M d (pc + 3) lv st (uAL G b (va_cpy (sL G a) (sL G b) sp.toNatClampNeg dp.toNatClampNeg n.toNatClampNeg)) post) : Ev K M d pc lv (.int n :: .int dp :: .ref b :: .int sp :: .ref a :: st) G post := by
  refine E_goA (G1 := uAL G b (va_cpy (sL G a) (sL G b) sp.toNatClampNeg dp.toNatClampNeg n.toNatClampNeg)) (Nat.le_refl _) (Nat.le_refl _) (fun p e R s m args below meth c H locs cells slots ls Q C F hH hF hl2 hlv hd1 hd2 hcs hss kk => ?_) h
  refine W_copy C.1 C.2.1 (C.2.2.1.trans hlv.1.symm) C.2.2.2.2.1 (C.2.2.2.2.2.1 _ hl) (C.2.2.2.2.2.1 _ hnat) (C.2.2.2.2.2.1 _ hst) (C.2.2.2.2.2.1 _ hini) (fun z => .long z) ((hH.2.2 a ha0 ha).2.1 hka) ((hH.2.2 b hb0 hb).2.1 hkb) (F.1.2 1 _ rfl).1 (F.1.2 1 _ rfl).1 rfl h1 h2 h3 h4 h5 (fun _ => rfl) (fun _ _ q => by cases q) (by omega) (by rw [cat_sum]; have := nfw_le; omega) hdg (fun H1 L e1 z oq hL => ?_)
  have k1 := kk H1 (locs ++ L) (hH.put rfl z oq (fun j hj => ag_uAL hj) ?_) (hF.put hb0 oq) (locs_app hl2 hL (by omega))
  · have e9 : nx (uAL G b (va_cpy (sL G a) (sL G b) sp.toNatClampNeg dp.toNatClampNeg n.toNatClampNeg)) - nx G = 0 := Nat.sub_self _
    have e8 : su (uAL G b (va_cpy (sL G a) (sL G b) sp.toNatClampNeg dp.toNatClampNeg n.toNatClampNeg)) - su G = 0 := Nat.sub_self _
    rw [e9, e8] at k1
    exact k1
  · have hk1 : sK (uAL G b (va_cpy (sL G a) (sL G b) sp.toNatClampNeg dp.toNatClampNeg n.toNatClampNeg)) b = 101 := hkb
    refine ⟨fun q => absurd q (by omega), fun _ => ?_, fun q => absurd q (by omega), fun q => absurd q (by omega), fun q => absurd q (by omega)⟩
    rw [e1, show sL (uAL G b (va_cpy (sL G a) (sL G b) sp.toNatClampNeg dp.toNatClampNeg n.toNatClampNeg)) b = _ from up_at _ _ _]; rfl
theorem E_topi {x : Int32} (h : ∀ y : Int32, y = x → Ev K M d pc lv (.int y :: st) G post) : Ev K M d pc lv (.int x :: st) G post := h x rfl
theorem E_topl {x : Int64} (h : ∀ y : Int64, y = x → Ev K M d pc lv (.long y :: st) G post) : Ev K M d pc lv (.long x :: st) G post := h x rfl
theorem tb_eq {x : Int32} (k : Nat) (h : x = nI k) (hk : k < 2 ^ 31) : x.toInt = (k : Int) := by rw [h]; exact nI_toInt hk
theorem tb_out {x : Int32} (n : Nat) (hn : n < 2 ^ 31) (h : ∀ k, k ≤ n → x ≠ nI k) : x.toInt < 0 ∨ (n : Int) < x.toInt := by
  rcases Int.lt_or_le x.toInt 0 with q | q
  · exact Or.inl q
  · rcases Int.lt_or_le (n : Int) x.toInt with q2 | q2
    · exact Or.inr q2
    · exfalso
      apply h x.toInt.toNat (by omega)
      apply Int32.toInt_inj.mp
      rw [nI_toInt (by omega)]
      omega
end CALLS2

section RULESE
variable {K : KT} {M : MT} {d pc : Nat} {lv : List (Nat × Value)} {st : List Value} {G : St} {post : Option Value → St → Prop}
/-! things that are made -/
theorem Fr.new {H0 H H1 : Heap} (h : Fr K H0 H) (hz : kb K < H.size) (ho : ∀ q : Nat, q < H.size → H1[q]? = H[q]?) : Fr K H0 H1 := fun q hq => (ho q (by omega)).trans (h q hq)
theorem E_newa {atype : ArrayType} {t N : Nat} {ty : FieldType} {n : Int32} (harr : Cond.arrayClass (newarray.typeOf atype) ∈ lw_g) (hty : newarray.typeOf atype = ty) (hta : (t = 0 ∧ ty = .int) ∨ (t = 1 ∧ ty = .long) ∨ (t = 2 ∧ ty = .byte) ∨ (t = 3 ∧ ty = .boolean)) (hn : ¬ n < 0) (hN : n.toNatClampNeg = N) (hbytes : N * componentBytes ty ≤ 536870912) (hdg : decode M.2.1 pc = .ok (.newarray atype, 2)) (h : Ev K M d (pc + 2) lv (.ref (nx G) :: st) (uN G (100 + t) N) post) : Ev K M d pc lv (.int n :: st) G post := by
  subst hty
  have e1 : nx (uN G (100 + t) N) = nx G + 1 := rfl
  have e2 : su (uN G (100 + t) N) = su G + N := rfl
  refine E_goA (G1 := uN G (100 + t) N) (by omega) (by omega) (fun p e R s m args below meth c H locs cells slots ls Q C F hH hFr hl hlv _ _ hc hs kk => ?_) h
  refine va_newaK C.1 C.2.1 (C.2.2.2.2.2.1 _ harr) rfl hdg rfl hn hN hbytes (by omega) (by omega) rfl fun H1 cA a1 z1 o1 hAr hNm => ?_
  rw [hH.1] at a1
  have hk0 : sK (uN G (100 + t) N) (nx G) = 100 + t := up_at _ _ _
  have hn0 : sN (uN G (100 + t) N) (nx G) = N := up_at _ _ _
  have hi0 : sI (uN G (100 + t) N) (nx G) = fun _ => 0 := up_at _ _ _
  have hl0 : sL (uN G (100 + t) N) (nx G) = fun _ => 0 := up_at _ _ _
  have k1 := kk H1 locs (hH.new z1 o1 ?_) (hFr.new (by rw [hH.1]; have := hH.2.1; omega) o1) hl
  · rw [show cells + (nx (uN G (100 + t) N) - nx G) = cells + 1 by omega, show slots + (su (uN G (100 + t) N) - su G) = slots + N by omega] at k1
    rw [hH.1]
    exact k1
  · unfold Cat
    rw [hk0, hn0, hi0, hl0]
    rcases hta with ⟨rfl, h9⟩ | ⟨rfl, h9⟩ | ⟨rfl, h9⟩ | ⟨rfl, h9⟩
    all_goals
      rw [h9] at a1 hNm
    · have hcA : cA = kA K 0 := Option.some.inj (hNm.symm.trans (F.1.2 0 _ rfl).2)
      rw [hcA] at a1
      exact ⟨fun _ => a1, fun q => absurd q (by omega), fun q => absurd q (by omega), fun q => absurd q (by omega), fun q => absurd q (by omega)⟩
    · have hcA : cA = kA K 1 := Option.some.inj (hNm.symm.trans (F.1.2 1 _ rfl).2)
      rw [hcA] at a1
      exact ⟨fun q => absurd q (by omega), fun _ => a1, fun q => absurd q (by omega), fun q => absurd q (by omega), fun q => absurd q (by omega)⟩
    · have hcA : cA = kA K 2 := Option.some.inj (hNm.symm.trans (F.1.2 2 _ rfl).2)
      rw [hcA] at a1
      exact ⟨fun q => absurd q (by omega), fun q => absurd q (by omega), fun _ => a1, fun q => absurd q (by omega), fun q => absurd q (by omega)⟩
    · have hcA : cA = kA K 3 := Option.some.inj (hNm.symm.trans (F.1.2 3 _ rfl).2)
      rw [hcA] at a1
      exact ⟨fun q => absurd q (by omega), fun q => absurd q (by omega), fun q => absurd q (by omega), fun _ => a1, fun q => absurd q (by omega)⟩
def CN (own : String) (idx ci N : Nat) : Prop := ∃ (C : String) (T : u_T), vwCl[ci]? = some (C, T, N) ∧ Cond.classLink own idx C ∈ lw_g ∧ Cond.instantiable C N ∈ lw_g ∧ Cond.initialized C ∈ lw_g
theorem dv_fv {i ci : Nat} (hk : sK G i = ci) (h1 : sI G i = fun _ => 0) (h2 : sL G i = fun _ => 0) (h3 : sR G i = fun _ => 0) (k : Nat) (ht : isIt (tyOf ci k) = true ∨ tyOf ci k = .long ∨ isRt (tyOf ci k) = true) : defaultValue (tyOf ci k) = fv K G i k := by
  unfold fv
  rw [hk, h1, h2, h3]
  generalize tyOf ci k = ty at ht ⊢
  cases ty <;> first | rfl | (rcases ht with h | h | h <;> cases h)
theorem E_new {idx ci N : Nat} (hcl : clOK ci) (hC : CN M.1.cls idx ci N) (hci : ci < 12) (hty : ∀ k, k < N → isIt (tyOf ci k) = true ∨ tyOf ci k = .long ∨ isRt (tyOf ci k) = true) (hdg : decode M.2.1 pc = .ok (.new idx, 3)) (h : Ev K M d (pc + 3) lv (.ref (nx G) :: st) (uN G ci N) post) : Ev K M d pc lv st G post := by
  have e1 : nx (uN G ci N) = nx G + 1 := rfl
  have e2 : su (uN G ci N) = su G + N := rfl
  refine E_goA (G1 := uN G ci N) (by omega) (by omega) (fun p e R s m args below meth c H locs cells slots ls Q C F hH hFr hl hlv _ _ hc hs kk => ?_) h
  obtain ⟨hx, hb, -, -, hown, hts, -, -⟩ := C
  obtain ⟨Cn, T, N', hc0, hin, htp, hnm⟩ := hcl
  obtain ⟨C', T', hc', hlk, hins, hini⟩ := hC
  cases hc0.symm.trans hc'
  have hKn := F.1.1 ci _ hc0
  refine W.newcK hx hb hown (hts _ hlk) (hts _ hins) (hts _ hini) rfl hdg (by omega) (by omega) hKn.2.1 rfl fun H1 kC hkC a1 z1 o1 => ?_
  rw [hH.1] at a1
  have hk0 : sK (uN G ci N) (nx G) = ci := up_at _ _ _
  have k1 := kk H1 locs (hH.new z1 o1 ?_) (hFr.new (by rw [hH.1]; have := hH.2.1; omega) o1) hl
  · rw [show cells + (nx (uN G ci N) - nx G) = cells + 1 by omega, show slots + (su (uN G ci N) - su G) = slots + N by omega] at k1
    rw [hH.1]
    exact k1
  · refine ⟨fun q => absurd q (by omega), fun q => absurd q (by omega), fun q => absurd q (by omega), fun q => absurd q (by omega), fun _ => ?_⟩
    rw [hk0, nfOf_eq hc0]
    exact (u_born (tyOf ci) hts hin hKn hkC a1 htp).to (fun k hk => dv_fv hk0 (up_at _ _ _) (up_at _ _ _) (up_at _ _ _) k (hty k hk))
/-! ends -/
theorem E_ret {o : Option Value} (hr : rtOK M.2.2.2 o) (hdg : decode M.2.1 pc = .ok (rk o, 1)) (hp : post o G) : Ev K M d pc lv o.toList G post := by
  refine ⟨o, G, ⟨Nat.le_refl _, Nat.le_refl _, hr, ?_⟩, hp⟩
  intro p e R s m args below meth c H locs cells slots ls Q C F hH hF hl hlv hd1 hd2 hc hs k
  have k1 := k pc ls H locs hdg hH hF hl
  rw [Nat.sub_self, Nat.sub_self] at k1
  exact k1
theorem E_iret {v : Int32} (hr : M.2.2.2 = some .int) (hdg : decode M.2.1 pc = .ok (.ireturn, 1)) (hp : post (some (.int v)) G) : Ev K M d pc lv [.int v] G post := E_ret (o := some (.int v)) ⟨.int, hr, vp_nar_int v⟩ hdg hp
theorem E_zret {v : Int32} (hr : M.2.2.2 = some .boolean) (hv : v = 0 ∨ v = 1) (hdg : decode M.2.1 pc = .ok (.ireturn, 1)) (hp : post (some (.int v)) G) : Ev K M d pc lv [.int v] G post := E_ret (o := some (.int v)) ⟨.boolean, hr, nar_zz hv⟩ hdg hp
theorem E_lret {v : Int64} (hr : M.2.2.2 = some .long) (hdg : decode M.2.1 pc = .ok (.lreturn, 1)) (hp : post (some (.long v)) G) : Ev K M d pc lv [.long v] G post := E_ret (o := some (.long v)) hr hdg hp
theorem E_vret (hr : M.2.2.2 = none) (hdg : decode M.2.1 pc = .ok (.return_, 1)) (hp : post none G) : Ev K M d pc lv [] G post := E_ret (o := none) hr hdg hp
theorem E_aret {i : Nat} {ty : FieldType} (hr : M.2.2.2 = some (.array ty)) (hdg : decode M.2.1 pc = .ok (.areturn, 1)) (hp : post (some (.ref i)) G) : Ev K M d pc lv [.ref i] G post := E_ret (o := some (.ref i)) ⟨ty, hr⟩ hdg hp
end RULESE
/-! a method's contract out of its run -/
theorem lv_args_c (K : KT) : ∀ (as : List Value) (i : Nat), lv_args i (as.map (cv K)) = (lv_args i as).map (cp K)
  | [], _ => rfl
  | v :: as, i => by
    rw [List.map_cons, lv_args, lv_args, List.map_cons, lv_args_c K as, cv_cat]
    rfl
theorem lg_len_c (K : KT) : ∀ (as : List Value), (lg_sl (as.map (cv K))).length = (lg_sl as).length
  | [] => rfl
  | v :: as => by
    have ih := lg_len_c K as
    simp only [lg_sl, List.map_cons, List.flatMap_cons, List.length_append] at ih ⊢
    rw [ih, cv_cat]
    by_cases h : v.category = 2 <;> simp [h]
abbrev mws (M : MT) : List Cond := Cond.code M.1 M.2.1 M.2.2.1 M.2.2.2 :: lw_g
abbrev mrm (d mc ms : Nat) : Room := { frames := d, cells := mc, slots := ms, locals := 41 * d }
def mPc (K : KT) (as : List Value) (G : St) : Array Value → State → Prop := fun v U => v = (as.map (cv K)).toArray ∧ Fx K U U.heap ∧ Hp K G U.heap
def mQc (K : KT) (o : Option Value) (G' : St) : Array Value → State → Outcome → State → Prop := fun _ st oc t => oc = .returned (o.map (cv K)) ∧ Hp K G' t.heap ∧ Fr K st.heap t.heap
theorem Met_ofWF {l : Launch} {y : MethodName} {ws ws' : List Cond} {rm : Room} {Pc : Array Value → State → Prop} {Qc : Array Value → State → Outcome → State → Prop} {mc ms : Nat} {free : Addr → Prop} {cc : ByteArray} {maxL : Nat} {ret : Option FieldType}
    (hy : plainFor y = true) (hw : ws = Cond.code y cc maxL ret :: ws')
    (body : ∀ p e s m args below meth c s₁, BodyLoose p l y (headSpec ws rm) cc maxL ret e s m args below meth c s₁ → c.maxLocals = maxL → Pc args s →
      W p l e (headSpec ws rm).room s m args below meth c s.heap [] 0 0 (MQ below Qc args s mc ms free) (entryFrame m args maxL)) : Met l y ws rm Pc Qc mc ms free := by
  refine MetFree.of_bodySF (code := cc) (maxLocals := maxL) (ret := ret) hy ?_ ?_
  · intro args s m h hn
    obtain ⟨meth, c, h1, h2, h3, h4, h5, h6, -, -⟩ := Cond.code_spec hn (atoms_spec (ws := ws) h _ (by rw [hw]; exact List.mem_cons_self))
    exact ⟨meth, c, h1, h2, h3, h4, h5, h6⟩
  · intro p e s m args below meth c s₁ B hml hP _
    have hh0 : s₁.heap = s.heap := by rw [B.state]; rfl
    obtain ⟨t, a1, o, b1, b2, b3⟩ := body p e s m args below meth c s₁ B hml hP s₁ hh0 (Stand.of_body B)
    exact ⟨t, o, a1, b1, b2, ⟨b3.1, b3.2⟩⟩
theorem met_of_J {K : KT} {M : MT} {d : Nat} {as : List Value} {G G' : St} {o : Option Value} (h : J K M d 0 (lv_args 0 as) [] G o G') (hy : plainFor M.1 = true) (hlen : (lg_sl as).length ≤ M.2.2.1) :
    Met K.1 M.1 (mws M) (mrm d (nx G' - nx G) (su G' - su G)) (mPc K as G) (mQc K o G') (nx G' - nx G) (su G' - su G) (fun q => kb K < q) := by
  refine Met_ofWF (cc := M.2.1) (maxL := M.2.2.1) (ret := M.2.2.2) hy rfl ?_
  intro p e s m args below meth c s₁ B hml hv
  obtain ⟨rfl, hF, hH⟩ := hv
  have hx := B.exec
  have hb := B.bytes
  have hr := B.returns
  have hts0 := atoms_spec (ws := mws M) B.pre
  have hts : ∀ w ∈ lw_g, w.before ((as.map (cv K)).toArray) s = true := fun w hw => hts0 w (List.mem_cons_of_mem _ hw)
  have hown : s.vm.findClass M.1.cls = some m.cls := findClass_of_methodNamed B.named
  have hlocks := B.notSynchronized
  have hin : meth.name = M.1.name := (name_of_methodNamed B.named B.method).1
  have hl := lv_entry (as.map (cv K)) (n := M.2.2.1) (by rw [lg_len_c]; exact hlen)
  rw [lg_entry_eq]
  generalize (lg_sl (as.map (cv K)) ++ List.replicate (M.2.2.1 - (lg_sl (as.map (cv K))).length) Slot.unset).toArray = ls at hl ⊢
  rw [lv_args_c] at hl
  have C : Cx p s m (as.map (cv K)).toArray meth c M := ⟨hx, hb, hml, hr, hown, hts, hlocks, hin⟩
  obtain ⟨h1, h2, h3, h4⟩ := h
  refine h4 p e _ s m _ below meth c s.heap [] 0 0 ls _ C hF hH (fun _ _ => rfl) (fun q hq => by cases hq) hl (Nat.le_refl _) (Nat.le_refl _) (by rw [Nat.zero_add]; exact Nat.le_refl _) (by rw [Nat.zero_add]; exact Nat.le_refl _) (fun pc' ls' H' locs' a1 a2 a3 a4 => ?_)
  rw [Nat.zero_add, Nat.zero_add]
  match o, h3, a1 with
  | none, h3, a1 => exact W.vret hx hb (hr.trans h3) (fun t ht hW => ⟨rfl, by rw [ht]; exact a2, by rw [ht]; exact a3⟩) a4 a1
  | some (.int v), ⟨ty, h3, h9⟩, a1 => exact W.zret hx hb (hr.trans h3) h9 (fun t ht hW => ⟨rfl, by rw [ht]; exact a2, by rw [ht]; exact a3⟩) a4 a1
  | some (.long v), h3, a1 => exact W.lret hx hb (hr.trans h3) (fun t ht hW => ⟨rfl, by rw [ht]; exact a2, by rw [ht]; exact a3⟩) a4 a1
  | some (.ref i), ⟨ty, h3⟩, a1 => exact W.aret hx hb (hr.trans h3) (Or.inr ⟨ty, rfl⟩) (Or.inr ⟨_, rfl⟩) (fun t ht hW => ⟨rfl, by rw [ht]; exact a2, by rw [ht]; exact a3⟩) a4 a1

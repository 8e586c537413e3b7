/-! row: the law's own 'row', with the throw that it catches -/
abbrev nseN : String := "java/util/NoSuchElementException"
abbrev nseL : List String := ["java/lang/RuntimeException", "java/lang/Exception"]
/-- what is left when row has thrown: one thing more, that nobody holds -/
def XCr (K : KT) (G : St) : String → State → State → Prop := fun E st t => E = nseN ∧ Hp K (uN G (100 + 4) 6) t.heap ∧ Fr K st.heap t.heap
def nsI : List Nat := [18, 28, 29] ++ (List.range 66).map (· + 1218)
def nsB : List Cond := [.castable nseN nseN, .declares ⟨"java/lang/RuntimeException", "<init>", "()V"⟩, .declares ⟨"java/lang/Exception", "<init>", "()V"⟩, .declares ⟨"java/lang/Throwable", "<init>", "()V"⟩]
theorem ns_in : ∀ w ∈ (vx_at0 RX11 164 nseN nseL).filter goodWord, w ∈ nsI.filterMap (fun i => tables_1[i]?) := by decide +kernel
theorem ns_g : ∀ w ∈ (vx_at0 RX11 164 nseN nseL).filter goodWord, w ∈ lw_g := fun w hw => by
  obtain ⟨i, -, hi⟩ := List.mem_filterMap.mp (ns_in w hw)
  exact List.mem_filter.mpr ⟨List.mem_append_right _ (List.mem_of_getElem? hi), (List.mem_filter.mp hw).2⟩
theorem ns_b : ∀ w ∈ (vx_at0 RX11 164 nseN nseL).filter (fun w => !goodWord w), w ∈ nsB := by decide +kernel
theorem ns_t : ∀ w ∈ nsB, isNb w = true ∧ w ∈ [1225, 1226, 1228, 1230].filterMap (fun i => tables_1[i]?) := by decide +kernel
theorem ns_all {args : Array Value} {s : State} (hts : ∀ w ∈ lw_g, w.before args s = true) (hN : Nw s) : ∀ w ∈ vx_at0 RX11 164 nseN nseL, w.before args s = true :=
  vx_hat (L := vx_at0 RX11 164 nseN nseL) (B := nsB) (fun w hw => hts w (ns_g w hw)) ns_b (fun w hw => by
    obtain ⟨h1, h2⟩ := ns_t w hw
    obtain ⟨i, -, hi⟩ := List.mem_filterMap.mp h2
    have h3 := hN w (List.mem_append_right _ (List.mem_of_getElem? hi)) h1
    cases w <;> first | exact va_Nw.use rfl h3 | exact absurd h1 (fun q => by cases q))
section THROW
variable {p : Program} {l : Launch} {e : Env} {R : Room} {s : State} {m : MethodId} {args : Array Value} {below : List Frame} {meth : Method} {c : Code} {H : Heap} {locs : List Loc} {cells slots : Nat} {ls : Array Slot} {rest : List Value}
variable {mc ms : Nat} {free : Addr → Prop} {Qc : Array Value → State → Outcome → State → Prop} {XC : String → State → State → Prop}
/-- 'throw new E()' as vx_throw0 has it, and one cell more exactly -/
theorem thr0 {cc : ByteArray} {pc : Nat} (hexec : p.tables.exec = Jvm.exec) (hb : c.code = cc) (hl : l.stackTraces = false) {own cls : String} {names : List String} {ik ic mc ms : Nat} {A : Nat → Prop}
    (hown : s.vm.findClass own = some m.cls) (hcls : Bundle.fit cls = true) (hnames : ∀ n ∈ names, Bundle.fit n = true)
    (hk : (Cond.classLink own ik cls).before args s = true) (hini : (Cond.initialized cls).before args s = true) (hat : ∀ w ∈ vx_at0 own ic cls names, w.before args s = true)
    (hgood : ∀ w ∈ Cond.classLink own ik cls :: Cond.initialized cls :: vx_at0 own ic cls names, vx_ot w = true)
    (hU : vx_Zq Bundle.tN "UNASSIGNED_STACK" Bundle.steD A s s.heap) (hN : vx_Zq Bundle.tN "SUPPRESSED_SENTINEL" Bundle.listD A s s.heap) (hS : ∀ a, a < s.heap.size → ¬ A a → H[a]? = s.heap[a]?) (hsize : ls.size = c.maxLocals)
    (d0 : decode cc pc = .ok (.new ik, 3)) (d3 : decode cc (pc + 3) = .ok (.dup, 1)) (d4 : decode cc (pc + 4) = .ok (.invokespecial ic, 3)) (d7 : decode cc (pc + 7) = .ok (.athrow, 1))
    (hout : ∀ x ∈ c.exceptionTable.toList, covers x (pc + 7) = false)
    (hRframes : names.length + 3 < R.frames) (hRlocals : (rest.map fun v => v.category).sum + (13 * (names.length + 1) + 42) ≤ R.locals) (hRcells : cells + 1 ≤ R.cells) (hRslots : slots + 6 ≤ R.slots) (hlocks : meth.locks = false)
    (hx : ∀ t : State, s.vm.Alike t.vm → t.heap.size = H.size + 1 → (∀ q : Nat, q < H.size → t.heap[q]? = H[q]?) → XC cls s t)
    (hf : ∀ z ∈ locs, free z.base) (hc : cells + 1 ≤ mc) (hs : slots + 6 ≤ ms) :
    W p l e R s m args below meth c H locs cells slots (vx_MQ below Qc XC args s mc ms free) (F0 m pc ls rest) := by
  intro T hT X
  have htr : e.platform.stackTraces = false := (show e.platform.stackTraces = l.stackTraces by rw [X.admits.platform]).trans hl
  have Y := vx_rebase X (R' := { frames := R.frames, locals := R.locals, cells := 1, slots := 6 }) (Nat.le_refl _) (Nat.le_refl _) hRcells hRslots
  obtain ⟨s', hA⟩ : ∃ z, z = (T.setVm s.vm).setFrames (.invoking m args :: below) := ⟨_, rfl⟩
  rw [← hA] at Y
  have hvm : s'.vm = s.vm := by rw [hA]; rfl
  have hhp : s'.heap = H := by rw [hA]; exact hT
  have hW0 : s.WarmedH s'.vm := by rw [hvm]; exact State.WarmedH.refl s
  have hat' : ∀ w ∈ vx_at0 own ic cls names, w.before args s' = true := fun w hw => vx_ot_at hW0 hvm.symm (hgood w (List.mem_cons_of_mem _ (List.mem_cons_of_mem _ hw))) (hat w hw)
  have hk' : (Cond.classLink own ik cls).before args s' = true := vx_ot_at hW0 hvm.symm (hgood _ List.mem_cons_self) hk
  have hini' : (Cond.initialized cls).before args s' = true := vx_ot_at hW0 hvm.symm (hgood _ (List.mem_cons_of_mem _ List.mem_cons_self)) hini
  have hU' : vx_Zq Bundle.tN "UNASSIGNED_STACK" Bundle.steD A s' s'.heap := by rw [hhp]; exact vx_Zq.moved hW0.alike (hU.kept hS)
  have hN' : vx_Zq Bundle.tN "SUPPRESSED_SENTINEL" Bundle.listD A s' s'.heap := by rw [hhp]; exact vx_Zq.moved hW0.alike (hN.kept hS)
  have h : ∀ w ∈ Bundle.ownAtoms0 own ic cls names, w.before args s' = true := vx_own hat' (vx_isRefq hU'.1) (vx_isRefq hN'.1) hU'.2.word hN'.2.word
  have hown' : s'.vm.findClass own = some m.cls := by rw [hvm]; exact hown
  have hins : (Cond.instantiable cls 6).before args s' = true := h _ (by simp [Bundle.ownAtoms0])
  obtain ⟨vm₁, cX, kX, hfX, hkX, -, -, X₁, st1⟩ := Y.newCold hexec (own := own) (C := cls) (index := ik) (n := 6) hown' hk' hins hini'
    (g := F0 m pc ls rest) rfl (by rw [hb]; exact d0) (Nat.le_refl _) (Nat.le_refl _)
  generalize hT1 : (T.setVm vm₁).pushCell { cls := cX, slots := kX.instanceTypes.map defaultValue, vm := .none } = T1 at X₁ st1
  have hcat : (Value.ref T.heap.size).category = 1 := rfl
  have hcellA : T1.heap[T.heap.size]? = some (freshCell cX kX) := by rw [← hT1]; exact State.heap_pushCell_size _ _
  have d3' : decode c.code (pc + 3) = .ok (.dup, 1) := by rw [hb]; exact d3
  obtain ⟨U, hsteps, hrun, hend, hW, hsame, ce, hce, hO⟩ := X₁.ctorThrow0 hexec htr (own := own) (cls := cls) (names := names) (ic := ic) hown' hcls hnames h (fun x hx => nomatch hx) hfX hkX hcellA (by rw [hhp, hT]; exact Nat.le_refl _)
    (g := { method := m, pc := pc + 4, locals := ls, stack := .ref T.heap.size :: .ref T.heap.size :: rest, locked := none }) rfl hsize rfl rfl (rest := rest) rfl
    (by rw [hb]; exact d4) (by rw [hb]; exact d7) hout hRframes (by simp only [List.map_cons, List.sum_cons, hcat]; omega) hlocks
  obtain ⟨f1, f2⟩ := vx_frame hsame
  rw [hhp] at f1 f2
  have f3 : U.heap.size = H.size + 1 := by
    have g1 : U.heap.size ≤ s'.heap.size + (0 + 1) := hsame.2.2.1
    have g2 : T.heap.size < U.heap.size := (Array.getElem?_eq_some_iff.mp hce).1
    rw [hhp] at g1
    rw [hT] at g2
    omega
  have hWs : s.WarmedH U.vm := State.WarmedH.trans hW0 hW
  have hcl : s.vm.findClass cls = some ce.cls := by
    have h9 := hO.cls
    rw [hvm] at h9
    exact h9
  have hall : s.sameButNew ({ U with vm := s.vm } : State) locs mc ms := by
    subst hA
    obtain ⟨e1, e2⟩ := hsame
    rw [State.setFrames_setFrames] at e1
    have h2 : (T.setVm s.vm).sameButNew ({ U with vm := s.vm } : State) [] (0 + 1) (0 + 6) := ⟨e1, e2⟩
    have h3 := X.same.trans h2
    rw [List.append_nil] at h3
    exact h3.mono hc hs
  refine ⟨U, ?_, .threw T.heap.size, hrun, hend, Or.inr ⟨T.heap.size, rfl, cls, ce, locs, hx U hWs.alike f3 (fun q hq => f2 q hq (fun z hz => nomatch hz)), hce, hO.vm, hcl, hWs, hall, hf⟩⟩
  refine st1 _ ?_
  show Steps p.tables e below (T1.setTop { method := m, pc := pc + 3, locals := ls, stack := .ref T.heap.size :: rest, locked := none }) _
  jvm_step X₁.here [X₁.here.top, hexec, d3', Value.category]
  exact hsteps
/-- the one handler of a method catches what it names -/
theorem caught1 {T : State} (X : Stand p l e R s m args below meth c T locs cells slots) {g : JFrame} (hg : g.method = m) {own name : String} (hown : s.vm.findClass own = some m.cls) {x : ExceptionTableEntry} (hsplit : c.exceptionTable.toList = [x]) (hx : covers x g.pc = true) (h0 : x.catchType ≠ 0)
    (hlink : (Cond.classLink own x.catchType name).before args s = true) {q : Addr} {ce : Cell} (hcell : T.heap[q]? = some ce) (hv : ce.vm = .none) (hcl : s.vm.findClass name = some ce.cls) :
    ∃ vm', Stand p l e R s m args below meth c (T.setVm vm') locs cells slots ∧
      ∀ target, Steps p.tables e below ((T.setVm vm').setTop { g with pc := x.handlerPc, stack := [.ref q] }) target → Steps p.tables e below ((T.setTop g).pushFrame (.throwing q)) target := by
  have hpl : e.platform.magicAccessors = ({} : Platform).magicAccessors := by rw [X.admits.platform]
  obtain ⟨cT, hc', hlk⟩ := Cond.classLink_spec hown hlink e.platform hpl
  cases Option.some.inj (hc'.symm.trans hcl)
  obtain ⟨dk, _, _, kt, hd, _, _, _, _, hkt, _, hopen⟩ := hlk.here
  have hlk₀ := X.warmed.classLinks hlk
  have hW' : s.WarmedH (T.vm.noted m.cls x.catchType (.cls ce.cls)) := X.warmed.noted hd hopen (State.rightAt_cls hlk)
  have hal := X.warmed.alike
  obtain ⟨kt', hkt', -⟩ := hal.2.2 _ _ hkt
  have hal2 : T.vm.Alike (T.vm.noted m.cls x.catchType (.cls ce.cls)) := (Vm.Alike.refl T.vm).noted _ _ _
  obtain ⟨kt2, hkt2, -⟩ := hal2.2.2 _ _ hkt'
  have hself : ∀ vm : Vm, vm.assignable ce.cls ce.cls = true := fun vm => by
    show vm.assignableAux (255 + 1) ce.cls ce.cls = true
    rw [Vm.assignableAux]; simp
  refine ⟨_, X.noted hW', fun target hrest => ?_⟩
  subst hg
  have hobj : ∀ k, ce.vm ≠ .statics k := fun k => by rw [hv]; exact fun z => by cases z
  have hx' : (decide (x.startPc ≤ g.pc) && decide (g.pc < x.endPc)) = true := hx
  obtain ⟨ha, ht⟩ := (resolveClass_links e.toSetting hlk₀).op (op := VmOp.resolveClass g.method.cls x.catchType) rfl
  have hself' := hself (T.vm.noted g.method.cls x.catchType (.cls ce.cls))
  have hfind : ∀ (Q : Handler → Pre) (E : CtlPost) (d : Bool) (acts : List Action), wp (findHandler g q) Q E e d acts ((T.setTop g).pushFrame (.throwing q)) ↔ Q (.found x.handlerPc) d acts (((T.setTop g).pushFrame (.throwing q)).setVm (T.vm.noted g.method.cls x.catchType (.cls ce.cls))) := by
    intro Q E d acts
    rw [Jvm.W.findHandler_eq (s := (T.setTop g).pushFrame (.throwing q)) (meth := meth) (code := c) X.method' X.code, hsplit]
    have hvm1 : ((T.setTop g).pushFrame (.throwing q)).vm = T.vm := rfl
    have hhp1 : ((T.setTop g).pushFrame (.throwing q)).heap[q]? = some ce := hcell
    simp [findHandler.go, hx', h0, hvm1, ha, ht, hhp1, hobj, hkt2, hself', VmOp.dirties, VmOp.acts]
  have hstep : ∀ r : List Frame, (stepThrowing e ((T.setTop g).pushFrame (.throwing q)) q (.java g :: r)).Is ((((T.setTop g).pushFrame (.throwing q)).setVm (T.vm.noted g.method.cls x.catchType (.cls ce.cls))).setFrames (.java { g with pc := x.handlerPc, stack := [.ref q] } :: r)) [] := by
    intro r
    simp only [stepThrowing, searchFrame, vmDo]
    generalize hr : Sem.go _ e false [] _ = res
    obtain ⟨as, rfl, ha2⟩ := Sem.eq_ok_of hr (a := Handler.found x.handlerPc) (s' := ((T.setTop g).pushFrame (.throwing q)).setVm (T.vm.noted g.method.cls x.catchType (.cls ce.cls))) (acts' := []) (by simp [hfind _ _ _ _])
    exact ⟨rfl, ha2⟩
  have hsw : ∀ (u : State) (vm' : Vm) (F1 F2 : List Frame), ((u.setFrames F1).setVm vm').setFrames F2 = (u.setVm vm').setFrames F2 := fun u vm' F1 F2 => by
    have h1 : (u.setFrames F1).setVm vm' = (u.setVm vm').setFrames F1 := rfl
    rw [h1, State.setFrames_setFrames]
  obtain ⟨hgo, hw⟩ := X.here.throwing q
  refine Steps.head hgo hw ?_
  rw [stepThread_throwing (frames_entered X.here.top _), (hstep _).1]
  obtain ⟨g₀, hg0⟩ := Option.isSome_iff_exists.mp X.here.top
  obtain ⟨r, hr⟩ := State.topJava?_eq_some.mp hg0
  have hr' : (T.setVm (T.vm.noted g.method.cls x.catchType (.cls ce.cls))).frames = .java g₀ :: r := hr
  rw [State.setTop_of_frames _ hr'] at hrest
  rw [hr, List.tail_cons, State.pushFrame, hsw, State.setTop_of_frames _ hr, hsw]
  exact hrest
end THROW
section ROWT
variable {K : KT} {M : MT} {G : St} {p : Program} {e : Env} {R : Room} {s : State} {m : MethodId} {args : Array Value} {below : List Frame} {meth : Method} {c : Code} {H : Heap} {locs : List Loc} {cells slots : Nat} {ls : Array Slot} {rest : List Value} {Q : State → Prop} {pc : Nat}
theorem W_get {idx ci k i : Nat} {fin : Bool} {v : Value} (hcl : clOK ci) (hF : FL M.1.cls idx ci k fin) (hci : ci < 12) (hk : sK G i = ci) (h0 : 0 < i) (hi : i < nx G) (hv : fv K G i k = v) (hdg : decode M.2.1 pc = .ok (.getfield idx, 3)) (C : Cx p s m args meth c M) (F : Fx K s s.heap) (hH : Hp K G H)
    (kk : W p K.1 e R s m args below meth c H locs cells slots Q (F0 m (pc + 3) ls (v :: rest))) : W p K.1 e R s m args below meth c H locs cells slots Q (F0 m pc ls (.ref (kb K + i) :: rest)) := by
  obtain ⟨hx, hb, -, -, hown, hts, -, -⟩ := C
  obtain ⟨C, T, N, hc, hin, hty, hnm⟩ := hcl
  obtain ⟨C', T', N', hc', hkN, hlink, -, hC⟩ := hF
  cases hc.symm.trans hc'
  have hob := (hH.2.2 i h0 hi).2.2.2.2 (by omega)
  rw [hk, nfOf_eq hc] at hob
  obtain ⟨cell, q1, q2, q3, q4⟩ := hob
  obtain ⟨hS, hfc, kC, hkC, hkind⟩ := F.1.1 ci _ hc
  obtain ⟨cf, kf, fi, f, hfi, hsl⟩ := hS k hkN
  refine W.getf hx hb hown (hts _ hlink) hfi (u_facts hfc hkC (u_lays hts hin hkN) hfi).1 q1 (by rw [q3]; exact fun h => by cases h) (v := fv K G i k) ?_ rfl rfl hdg (by rw [hv]; exact kk)
  rw [hsl, q4 k hkN]
/-- a call that leaves the store as it was -/
theorem W_callV {d d2 idx n i ci : Nat} {M2 : MT} {as : List Value} {r : Int32} (hM : CM M2 n) (hV : CV M.1.cls idx M2) (hcn : ∃ T N, vwCl[ci]? = some (M2.1.cls, T, N)) (hci : ci < 12) (hk : sK G i = ci) (h0 : 0 < i) (hi : i < nx G) (hn : as.length = n) (hd : d2 < d) (hlen : (lg_sl (.ref i :: as)).length ≤ M2.2.2.1) (hroom : (rest.map fun v => v.category).sum ≤ 8) (hdg : decode M.2.1 pc = .ok (.invokevirtual idx, 3))
    (hJ : J K M2 d2 0 (lv_args 0 (.ref i :: as)) [] G (some (.int r)) G) (C : Cx p s m args meth c M) (F : Fx K s s.heap) (hH : Hp K G H) (hF : Fr K s.heap H) (hl : ∀ q ∈ locs, kb K < q.base) (hls : ls.size = M.2.2.1) (hd1 : d ≤ R.frames) (hd2 : 41 * d ≤ R.locals) (hcs : cells ≤ R.cells) (hss : slots ≤ R.slots)
    (kk : ∀ (H1 : Heap) (locs1 : List Loc), Hp K G H1 → Fr K s.heap H1 → (∀ q ∈ locs1, kb K < q.base) → W p K.1 e R s m args below meth c H1 locs1 cells slots Q (F0 m (pc + 3) ls (.int r :: rest))) : W p K.1 e R s m args below meth c H locs cells slots Q (F0 m pc ls ((as.map (cv K)).reverse ++ .ref (kb K + i) :: rest)) := by
  obtain ⟨T, N, hcT⟩ := hcn
  have hm := met_of_J hJ hM.2.2.1 hlen
  have hob := (hH.2.2 i h0 hi).2.2.2.2 (by omega)
  rw [hk] at hob
  obtain ⟨cell, q1, q2, q3, -⟩ := hob
  obtain ⟨-, hfc, -⟩ := F.1.1 ci _ hcT
  have cb : CallB R s args M.1.cls idx M2.1 M2.2.1 M2.2.2.1 M2.2.2.2 (mws M2) (mrm d2 (nx G - nx G) (su G - su G)) (nx G - nx G) (su G - su G) n := callB_of n C.2.2.2.2.2.1 (mws_good hM.1) rfl rfl rfl (C.2.2.2.2.2.1 _ hM.2.1) (C.2.2.2.2.2.1 _ hV.1) hM.2.2.2.1 ⟨(by show d2 + 1 ≤ R.frames; omega), (by show 8 + (M2.2.2.1 + 11) + 41 * d2 ≤ R.locals; have := hM.2.2.2.2; omega)⟩
  have hrun := va_runV (g := F0 m pc ls ((as.map (cv K)).reverse ++ .ref (kb K + i) :: rest)) (As := as.map (cv K)) (rest := rest) (b := kb K + i) (H := H) (locs := locs) (cells := cells) (slots := slots) (e := e) (below := below) (meth := meth) (cc := M.2.1) (nL := M.2.2.1) ⟨C.1, C.2.1, C.2.2.1, C.2.2.2.2.1, C.2.2.2.2.2.1⟩ hm ⟨cb, C.2.2.2.2.2.1 _ hV.2.1, C.2.2.2.2.2.1 _ hV.2.2⟩ ⟨mPc_blind, ⟨cell, q1, by rw [q3]; rfl, by rw [q2]; exact hfc⟩, fun U hU hW => mPc_at (as := .ref i :: as) F hH hF U hU hW⟩ rfl (by rw [List.length_map]; exact hn) hls rfl (lv_room hroom) hdg ⟨by omega, by omega⟩
  refine W_callG hrun hF hl (fun H1 locs1 a1 a2 a3 => ?_)
  have k1 := kk H1 locs1 a1 a2 a3
  rw [show cells + (nx G - nx G) = cells by omega, show slots + (su G - su G) = slots by omega]
  exact k1
theorem Fr.size {H0 H1 : Heap} (h : Fr K H0 H1) : ∀ a, a < H0.size → ¬ kb K < a → H1[a]? = H0[a]? := fun a _ ha => h a (Nat.not_lt.mp ha)
set_option maxHeartbeats 4000000 in
set_option maxRecDepth 20000 in
/-- the class' row throws -/
theorem met_rowT {p0 p1 t : Int32} (hst : K.1.stackTraces = false) (hL : Lay G.2.2) (hJ : J K mX1_isTold 0 0 (lv_args 0 [.ref (sR G 1 8), .int p0]) [] G (some (.int t)) G) (hbad : t = 0 ∨ p1 < 0 ∨ ¬ p1 ≤ 2) :
    vx_Met K.1 yX11_row (mws mX11_row) (mrm 6 1 6) (mPc K [.ref 1, .int p0, .int p1] G) (fun _ _ _ _ => False) (XCr K G) 1 6 (fun q => kb K < q) := by
  refine vx_ofW (cc := cX11_row) (maxL := 3) (ret := some .int) (by decide +kernel) rfl ?_
  intro p e s m args below meth c s₁ B hml hno hv
  obtain ⟨rfl, hF, hH⟩ := hv
  have hx := B.exec
  have hb := B.bytes
  have hr := B.returns
  have hts0 := atoms_spec (ws := mws mX11_row) B.pre
  have hts : ∀ w ∈ lw_g, w.before (([.ref 1, .int p0, .int p1].map (cv K)).toArray) s = true := fun w hw => hts0 w (List.mem_cons_of_mem _ hw)
  have hown : s.vm.findClass mX11_row.1.cls = some m.cls := findClass_of_methodNamed B.named
  have hlocks := B.notSynchronized
  have hin : meth.name = mX11_row.1.name := (name_of_methodNamed B.named B.method).1
  have hl := lv_entry ([Value.ref 1, .int p0, .int p1].map (cv K)) (n := 3) (Nat.le_of_ble_eq_true rfl)
  rw [lg_entry_eq]
  generalize (lg_sl ([Value.ref 1, .int p0, .int p1].map (cv K)) ++ List.replicate (3 - (lg_sl ([Value.ref 1, .int p0, .int p1].map (cv K))).length) Slot.unset).toArray = ls at hl ⊢
  rw [lv_args_c] at hl
  have C : Cx p s m ([Value.ref 1, .int p0, .int p1].map (cv K)).toArray meth c mX11_row := ⟨hx, hb, hml, hr, hown, hts, hlocks, hin⟩
  have o1 := lo_1 hL
  have o8 := lhO hL (ly_8 hL)
  obtain ⟨fin, hfl⟩ := fG_X11_72.2.1
  have thr : ∀ (H1 : Heap) (locs1 : List Loc), Hp K G H1 → Fr K s.heap H1 → (∀ q ∈ locs1, kb K < q.base) → W p K.1 e (headSpec (mws mX11_row) (mrm 6 1 6)).room s m ([Value.ref 1, .int p0, .int p1].map (cv K)).toArray below meth c H1 locs1 0 0 (vx_MQ below (fun _ _ _ _ => False) (XCr K G) ([Value.ref 1, .int p0, .int p1].map (cv K)).toArray s 1 6 (fun q => kb K < q)) (F0 m 20 ls []) := by
    intro H1 locs1 hH1 hF1 hl1
    refine thr0 (own := RX11) (cls := nseN) (names := nseL) (ik := 162) (ic := 164) (A := fun q => kb K < q) hx hb hst hown (by decide +kernel) (by decide +kernel) (hts _ tm_1223) (hts _ tm_21) (fun w hw => ?_) (by decide +kernel) hF.2.2.2.2.2.2.2.2.1 hF.2.2.2.2.2.2.2.2.2 hF1.size (hl.1.trans hml.symm) dX11_row_20 dX11_row_23 dX11_row_24 dX11_row_27 (fun x hx => (hno x hx).elim) (by decide) (Nat.le_of_ble_eq_true rfl) (Nat.le_refl _) (Nat.le_refl _) hlocks (fun t _ hz ho => ⟨rfl, hH1.new hz ho ?_, fun q hq => ?_⟩) hl1 (Nat.le_refl _) (Nat.le_refl _)
    · exact ns_all hts hF.2.2.2.2.2.2.2.1 w hw
    · have hk0 : sK (uN G (100 + 4) 6) (nx G) = 104 := up_at _ _ _
      exact ⟨fun q => absurd q (by omega), fun q => absurd q (by omega), fun q => absurd q (by omega), fun q => absurd q (by omega), fun q => absurd q (by omega)⟩
    · rw [ho q (by rw [hH1.1]; have := hH1.2.1; omega)]; exact hF1 q hq
  refine lv_aload_n hx hb dX11_row_0 rfl (lv_atc hl 0 rfl) ?_
  refine W_get (M := mX11_row) (G := G) (i := 1) (ci := 10) fG_X11_72.1 hfl (by decide) o1.1 o1.2.1 o1.2.2 (fv_ref o1.1 rfl rfl (lhP (ly_8 hL))) dX11_row_1 C hF hH ?_
  refine lv_iload_n hx hb dX11_row_4 rfl (lv_atc hl 1 rfl) ?_
  refine W_callV (M := mX11_row) (d := 6) (d2 := 0) (as := [.int p0]) (rest := []) cm_X1_isTold cV_X11_158 ⟨_, _, rfl⟩ (by decide : (1 : Nat) < 12) o8.1 o8.2.1 o8.2.2 rfl (by decide) (Nat.le_of_ble_eq_true rfl) (Nat.le_of_ble_eq_true rfl) dX11_row_5 hJ C hF hH (fun _ _ => rfl) (fun q hq => by cases hq) hl.1 (Nat.le_refl _) (Nat.le_refl _) (Nat.zero_le _) (Nat.zero_le _) (fun H1 locs1 hH1 hF1 hl1 => ?_)
  refine lv_if_eq (tgt := 20) hx hb dX11_row_8 (by decide) (fun _ => thr H1 locs1 hH1 hF1 hl1) (fun z1 => ?_)
  refine lv_iload_n hx hb dX11_row_11 rfl (lv_atc hl 2 rfl) ?_
  refine lv_if_lt (tgt := 20) hx hb dX11_row_12 (by decide) (fun _ => thr H1 locs1 hH1 hF1 hl1) (fun z2 => ?_)
  refine lv_iload_n hx hb dX11_row_15 rfl (lv_atc hl 2 rfl) ?_
  refine lv_iconst (v := 2) hx hb dX11_row_16 (by decide) ?_
  refine lv_icmp_le (tgt := 28) hx hb dX11_row_17 (by decide) (fun z3 => ?_) (fun _ => thr H1 locs1 hH1 hF1 hl1)
  rcases hbad with h | h | h
  · exact absurd h z1
  · exact absurd h z2
  · exact absurd z3 h
theorem Met_ofWH {l : Launch} {y : MethodName} {ws ws' : List Cond} {rm : Room} {Pc : Array Value → State → Prop} {Qc : Array Value → State → Outcome → State → Prop} {mc ms : Nat} {free : Addr → Prop} {cc : ByteArray} {maxL : Nat} {ret : Option FieldType} {hh : List (Nat × Nat × Nat × Nat)}
    (hy : plainFor y = true) (hw : ws = Cond.codeWith y cc maxL ret hh :: ws')
    (body : ∀ p e s m args below meth c s₁, BodyLoose p l y (headSpec ws rm) cc maxL ret e s m args below meth c s₁ → c.maxLocals = maxL → c.exceptionTable.toList = tableOf hh → Pc args s →
      W p l e (headSpec ws rm).room s m args below meth c s.heap [] 0 0 (MQ below Qc args s mc ms free) (entryFrame m args maxL)) : Met l y ws rm Pc Qc mc ms free := by
  refine MetFree.of_bodySF (code := cc) (maxLocals := maxL) (ret := ret) hy ?_ ?_
  · intro args s m h hn
    obtain ⟨m9, meth, c, hn9, h1, h2, h3, h4, -, h5, h6, -⟩ := Cond.codeWith_spec (atoms_spec (ws := ws) h _ (by rw [hw]; exact List.mem_cons_self))
    cases hn.symm.trans hn9
    exact ⟨meth, c, h1, h2, h3, h4, h5, h6⟩
  · intro p e s m args below meth c s₁ B hml hP _
    have hh0 : s₁.heap = s.heap := by rw [B.state]; rfl
    have ht : c.exceptionTable.toList = tableOf hh := vx_table (x := y) B (atoms_spec (ws := ws) B.pre _ (by rw [hw]; exact List.mem_cons_self))
    obtain ⟨t, a1, o, b1, b2, b3⟩ := body p e s m args below meth c s₁ B hml ht hP s₁ hh0 (Stand.of_body B)
    exact ⟨t, o, a1, b1, b2, ⟨b3.1, b3.2⟩⟩
abbrev mL_row : MT := (yL_row, cL_row, 5, some .int)
/-- the law's row, when the class' row answers -/
theorem rowM_of_J {p0 p1 o : Int32} {G' : St} (h : J K mL_row 7 0 (lv_args 0 [.ref 1, .int p0, .int p1, .ref 103]) [] G (some (.int o)) G') : RowM K 7 p0 p1 G o G' := by
  obtain ⟨h1, h2, h3, h4⟩ := h
  refine ⟨h1, h2, Met_ofWH (cc := cL_row) (maxL := 5) (ret := some .int) (hh := hRow) (by decide +kernel) rfl ?_⟩
  intro p e s m args below meth c s₁ B hml hTab hv
  obtain ⟨rfl, hF, hH⟩ := hv
  have hx := B.exec
  have hb := B.bytes
  have hr := B.returns
  have hts0 := atoms_spec (ws := wRow) B.pre
  have hts : ∀ w ∈ lw_g, w.before (([.ref 1, .int p0, .int p1, .ref 103].map (cv K)).toArray) s = true := fun w hw => hts0 w (List.mem_cons_of_mem _ hw)
  have hown : s.vm.findClass mL_row.1.cls = some m.cls := findClass_of_methodNamed B.named
  have hlocks := B.notSynchronized
  have hin : meth.name = mL_row.1.name := (name_of_methodNamed B.named B.method).1
  have hl := lv_entry ([Value.ref 1, .int p0, .int p1, .ref 103].map (cv K)) (n := 5) (Nat.le_of_ble_eq_true rfl)
  rw [lg_entry_eq]
  generalize (lg_sl ([Value.ref 1, .int p0, .int p1, .ref 103].map (cv K)) ++ List.replicate (5 - (lg_sl ([Value.ref 1, .int p0, .int p1, .ref 103].map (cv K))).length) Slot.unset).toArray = ls at hl ⊢
  rw [lv_args_c] at hl
  have C : Cx p s m ([Value.ref 1, .int p0, .int p1, .ref 103].map (cv K)).toArray meth c mL_row := ⟨hx, hb, hml, hr, hown, hts, hlocks, hin⟩
  refine h4 p e _ s m _ below meth c s.heap [] 0 0 ls _ C hF hH (fun _ _ => rfl) (fun q hq => by cases hq) hl (Nat.le_refl _) (Nat.le_refl _) (by rw [Nat.zero_add]; exact Nat.le_refl _) (by rw [Nat.zero_add]; exact Nat.le_refl _) (fun pc' ls' H' locs' a1 a2 a3 a4 => ?_)
  rw [Nat.zero_add, Nat.zero_add]
  exact W.zret hx hb hr (vp_nar_int o) (fun t ht hW => ⟨rfl, by rw [ht]; exact a2, by rw [ht]; exact a3⟩) a4 a1
set_option maxHeartbeats 4000000 in
set_option maxRecDepth 20000 in
/-- the law's row, when the class' row throws -/
theorem rowM_thr {p0 p1 : Int32} (hL : Lay G.2.2) (hm : vx_Met K.1 yX11_row (mws mX11_row) (mrm 6 1 6) (mPc K [.ref 1, .int p0, .int p1] G) (fun _ _ _ _ => False) (XCr K G) 1 6 (fun q => kb K < q)) : RowM K 7 p0 p1 G 1 (uN G (100 + 4) 6) := by
  have e1 : nx (uN G (100 + 4) 6) - nx G = 1 := by show nx G + 1 - nx G = 1; omega
  have e2 : su (uN G (100 + 4) 6) - su G = 6 := by show su G + 6 - su G = 6; omega
  refine ⟨Nat.le_succ _, Nat.le_add_right _ _, ?_⟩
  rw [e1, e2]
  refine Met_ofWH (cc := cL_row) (maxL := 5) (ret := some .int) (hh := hRow) (by decide +kernel) rfl ?_
  intro p e s m args below meth c s₁ B hml hTab hv
  obtain ⟨rfl, hF, hH⟩ := hv
  have hx := B.exec
  have hb := B.bytes
  have hr := B.returns
  have hts0 := atoms_spec (ws := wRow) B.pre
  have hts : ∀ w ∈ lw_g, w.before (([.ref 1, .int p0, .int p1, .ref 103].map (cv K)).toArray) s = true := fun w hw => hts0 w (List.mem_cons_of_mem _ hw)
  have hown : s.vm.findClass mL_row.1.cls = some m.cls := findClass_of_methodNamed B.named
  have hlocks := B.notSynchronized
  have hin : meth.name = mL_row.1.name := (name_of_methodNamed B.named B.method).1
  have hl := lv_entry ([Value.ref 1, .int p0, .int p1, .ref 103].map (cv K)) (n := 5) (Nat.le_of_ble_eq_true rfl)
  rw [lg_entry_eq]
  generalize (lg_sl ([Value.ref 1, .int p0, .int p1, .ref 103].map (cv K)) ++ List.replicate (5 - (lg_sl ([Value.ref 1, .int p0, .int p1, .ref 103].map (cv K))).length) Slot.unset).toArray = ls at hl ⊢
  rw [lv_args_c] at hl
  have C : Cx p s m ([Value.ref 1, .int p0, .int p1, .ref 103].map (cv K)).toArray meth c mL_row := ⟨hx, hb, hml, hr, hown, hts, hlocks, hin⟩
  have o1 := lo_1 hL
  refine lv_aload_n hx hb dL_row_0 rfl (lv_atc hl 3 rfl) ?_
  refine lv_iconst (v := 0) hx hb dL_row_1 (by decide) ?_
  refine lv_aload_n hx hb dL_row_2 rfl (lv_atc hl 0 rfl) ?_
  refine lv_iload_n hx hb dL_row_3 rfl (lv_atc hl 1 rfl) ?_
  refine lv_iload_n hx hb dL_row_4 rfl (lv_atc hl 2 rfl) ?_
  have hob := (hH.2.2 1 o1.2.1 o1.2.2).2.2.2.2 (by rw [o1.1]; decide)
  rw [o1.1] at hob
  obtain ⟨cell, q1, q2, q3, -⟩ := hob
  obtain ⟨-, hfc, -⟩ := hF.1.1 10 _ rfl
  have cb : CallB (headSpec wRow (mrm 7 1 6)).room s (([.ref 1, .int p0, .int p1, .ref 103].map (cv K)).toArray) RL 7 yX11_row cX11_row 3 (some .int) (mws mX11_row) (mrm 6 1 6) 1 6 2 := callB_of 2 hts (mws_good cm_X11_row.1) rfl rfl rfl (hts _ cm_X11_row.2.1) (hts _ cV_L_7.1) cm_X11_row.2.2.2.1 ⟨(by show 6 + 1 ≤ 7; decide), (by show 8 + (3 + 11) + 41 * 6 ≤ 41 * 7; decide)⟩
  have hrun := vx_runV (g := F0 m 5 ls [.int p1, .int p0, .ref (kb K + 1), .int 0, .ref (kb K + 103)]) (As := [.int p0, .int p1]) (rest := [.int 0, .ref (kb K + 103)]) (b := kb K + 1) (H := s.heap) (locs := []) (cells := 0) (slots := 0) (e := e) (below := below) (meth := meth) (cc := cL_row) (nL := 5) ⟨hx, hb, hml, hown, hts⟩ hm ⟨cb, hts _ cV_L_7.2.1, hts _ cV_L_7.2.2⟩ ⟨mPc_blind, ⟨cell, q1, by rw [q3]; rfl, by rw [q2]; exact hfc⟩, fun U hU hW => mPc_at (as := [.ref 1, .int p0, .int p1]) hF hH (fun _ _ => rfl) U hU hW⟩ rfl rfl hl.1 rfl (lv_room (Nat.le_of_ble_eq_true rfl)) dL_row_5 ⟨Nat.le_refl _, Nat.le_refl _⟩
  intro T hT X
  rcases hrun T hT X with ⟨v, st₀, t, T', L, -, -, -, -, -, hq, -⟩ | ⟨q, st₀, t, T', L, E, ce, g0, X', hLq, e3, e4, ⟨rfl, hp, hf⟩, hce, hcv, hcl, stp⟩
  · exact hq.elim
  · rw [g0] at hf
    obtain ⟨vm', X2, st2⟩ := caught1 X' (g := F0 m 5 ls [.int 0, .ref (kb K + 103)]) rfl (own := RL) (name := nseN) hown (x := ⟨0, 10, 13, 13⟩) (by rw [hTab]; rfl) (show covers (⟨0, 10, 13, 13⟩ : ExceptionTableEntry) 5 = true by decide) (by decide) (hts _ tm_1218) (q := q) (ce := ce) (by rw [e3]; exact hce) hcv hcl
    have fin : W p K.1 e (headSpec wRow (mrm 7 1 6)).room s m ([Value.ref 1, .int p0, .int p1, .ref 103].map (cv K)).toArray below meth c T'.heap ([] ++ L) (0 + 1) (0 + 6) (MQ below (mQc K (some (.int 1)) (uN G (100 + 4) 6)) ([Value.ref 1, .int p0, .int p1, .ref 103].map (cv K)).toArray s 1 6 (fun q => kb K < q)) (F0 m 13 ls [.ref q]) := by
      refine lv_astore (nL := 5) hx hb dL_row_13 hl (by decide) rfl (fun ls' h9 => ?_)
      refine lv_iconst (v := 1) hx hb dL_row_15 (by decide) ?_
      exact W.zret hx hb hr (vp_nar_int 1) (fun t ht hW => ⟨rfl, by rw [ht, e3]; exact hp, by rw [ht, e3]; exact hf⟩) hLq dL_row_16
    obtain ⟨t2, a1, b1⟩ := fin (T'.setVm vm') rfl X2
    exact ⟨t2, stp.trans (st2 _ a1), b1⟩
theorem k_rowN {Q : Int32 → St → Prop} {p0 p1 : Int32} (hL : Lay G.2.2) (hr : EvI K mX11_row 6 0 [(0, .ref 1), (1, .int p0), (2, .int p1)] [] G (fun x G1 => Q 0 (uL G1 103 0 (Int32.toInt64 x)))) : RowC K p0 p1 G Q := by
  have key : EvI K mL_row 7 0 [(0, .ref 1), (1, .int p0), (2, .int p1), (3, .ref 103)] [] G Q := by
    refine E_aload_n 3 dL_row_0 rfl rfl rfl ?_
    refine E_iconst (v := 0) dL_row_1 (by decide) ?_
    refine E_aload_n 0 dL_row_2 rfl rfl rfl ?_
    refine E_iload_n 1 dL_row_3 rfl rfl ?_
    refine E_iload_n 2 dL_row_4 rfl rfl ?_
    refine E_cV (ci := 10) (as := [.int p0, .int p1]) (st := [.int 0, .ref 103]) cm_X11_row cV_L_7 ⟨_, _, rfl⟩ (by decide) (lo_1 hL) rfl rfl (by decide) (Nat.le_of_ble_eq_true rfl) (Nat.le_of_ble_eq_true rfl) dL_row_5 hr (fun r G1 h => ?_)
    obtain ⟨x, rfl, hE, hB⟩ := h
    have hL1 : Lay G1.2.2 := by rw [hE]; exact hL
    show Ev K mL_row 7 8 [(0, .ref 1), (1, .int p0), (2, .int p1), (3, .ref 103)] [.int x, .int 0, .ref 103] G1 _
    refine E_i2l dL_row_8 rfl ?_
    refine E_sL (p := 0) (la_103 hL1) (by unfold vp_in; decide) (by decide) dL_row_9 ?_
    refine E_goto (tgt := 17) dL_row_10 (by decide) ?_
    refine E_iconst (v := 0) dL_row_17 (by decide) ?_
    exact E_iret rfl dL_row_18 ⟨_, rfl, hE, hB⟩
  obtain ⟨o, G', hJ, x, rfl, -, hQ⟩ := key
  exact ⟨x, G', rowM_of_J hJ, hQ⟩
/-- the class' row answers -/
theorem k_rowR {Q : Int32 → St → Prop} {x1 x2 : Int32} (hL : Lay G.2.2) (hT : EvI K mX1_isTold 0 0 [(0, .ref (sR G 1 8)), (1, .int x1)] [] G (fun r1 G1 => ¬ r1 = 0 ∧ G1 = G)) (h1 : ¬ x2 < 0) (h2 : x2 ≤ 2) (hin : vp_in x1 30) (q0 : x2 = 0 → Q (sI G (sR G 1 8 + 5) (Int32.toNatClampNeg x1)) G) (q1 : x2 = 1 → Q (sI G (sR G 1 8 + 6) (Int32.toNatClampNeg x1)) G) (q2 : ¬ x2 = 0 → ¬ x2 = 1 → EvI K mX11_seen 2 0 [(0, .ref 1)] [] G (fun r G1 => Q ((r >>> (x1 &&& 31)) &&& 1) G1)) : EvI K mX11_row 6 0 [(0, .ref 1), (1, .int x1), (2, .int x2)] [] G Q := by
  have hh := ly_8 hL
  refine E_aload_n 0 dX11_row_0 rfl rfl rfl ?_
  refine E_gR (j := sR G 1 8) fG_X11_72 rfl (lo_1 hL) rfl (lhP hh) dX11_row_1 ?_
  refine E_iload_n 1 dX11_row_4 rfl rfl ?_
  refine E_cV (ci := 1) (as := [.int x1]) (st := []) cm_X1_isTold cV_X11_158 ⟨_, _, rfl⟩ (by decide) (lhO hL hh) rfl rfl (by decide) (Nat.le_of_ble_eq_true rfl) (Nat.le_of_ble_eq_true rfl) dX11_row_5 hT (fun r G1 hr => ?_)
  obtain ⟨r1, rfl, -, hB, rfl⟩ := hr
  show Ev K mX11_row 6 8 [(0, .ref 1), (1, .int x1), (2, .int x2)] [.int r1] G1 _
  refine E_if_eq (tgt := 20) dX11_row_8 (by decide) (fun z => absurd z hB) (fun _ => ?_)
  refine E_iload_n 2 dX11_row_11 rfl rfl ?_
  refine E_if_lt (tgt := 20) dX11_row_12 (by decide) (fun z => absurd z h1) (fun _ => ?_)
  refine E_iload_n 2 dX11_row_15 rfl rfl ?_
  refine E_iconst (v := 2) dX11_row_16 (by decide) ?_
  refine E_icmp_le (tgt := 28) dX11_row_17 (by decide) (fun _ => ?_) (fun z => absurd h2 z)
  refine E_iload_n 2 dX11_row_28 rfl rfl ?_
  refine E_if_ne (tgt := 42) dX11_row_29 (by decide) (fun z0 => ?_) (fun z0 => ?_)
  · refine E_iload_n 2 dX11_row_42 rfl rfl ?_
    refine E_iconst (v := 1) dX11_row_43 (by decide) ?_
    refine E_icmp_ne (tgt := 59) dX11_row_44 (by decide) (fun z1 => ?_) (fun z1 => ?_)
    · refine E_aload_n 0 dX11_row_59 rfl rfl rfl ?_
      refine E_cV (ci := 10) (as := []) (st := []) cm_X11_seen cV_X11_171 ⟨_, _, rfl⟩ (by decide) (lo_1 hL) rfl rfl (by decide) (Nat.le_of_ble_eq_true rfl) (Nat.le_of_ble_eq_true rfl) dX11_row_60 (q2 z0 z1) (fun r G2 hr => ?_)
      obtain ⟨r2, rfl, hE2, hB2⟩ := hr
      show Ev K mX11_row 6 63 [(0, .ref 1), (1, .int x1), (2, .int x2)] [.int r2] G2 _
      refine E_iload_n 1 dX11_row_63 rfl rfl ?_
      refine E_ishr dX11_row_64 ?_
      refine E_iconst (v := 1) dX11_row_65 (by decide) ?_
      refine E_iand dX11_row_66 ?_
      exact E_iret rfl dX11_row_67 ⟨_, rfl, hE2, hB2⟩
    · refine E_aload_n 0 dX11_row_47 rfl rfl rfl ?_
      refine E_gR (j := sR G1 1 8) fG_X11_72 rfl (lo_1 hL) rfl (lhP hh) dX11_row_48 ?_
      refine E_gR (j := sR G1 1 8 + 6) fG_X11_168 rfl (lhO hL hh) (lhR5 hL hh) (Nat.succ_pos _) dX11_row_51 ?_
      refine E_iload_n 1 dX11_row_54 rfl rfl ?_
      refine E_aI (p := Int32.toNatClampNeg x1) (v := sI G1 (sR G1 1 8 + 6) (Int32.toNatClampNeg x1)) (lhA5 hL hh) hin rfl rfl dX11_row_55 ?_
      refine E_goto (tgt := 67) dX11_row_56 (by decide) ?_
      exact E_iret rfl dX11_row_67 ⟨_, rfl, rfl, q1 z1⟩
  · refine E_aload_n 0 dX11_row_32 rfl rfl rfl ?_
    refine E_gR (j := sR G1 1 8) fG_X11_72 rfl (lo_1 hL) rfl (lhP hh) dX11_row_33 ?_
    refine E_gR (j := sR G1 1 8 + 5) fG_X11_165 rfl (lhO hL hh) (lhR4 hL hh) (Nat.succ_pos _) dX11_row_36 ?_
    refine E_iload_n 1 dX11_row_39 rfl rfl ?_
    refine E_aI (p := Int32.toNatClampNeg x1) (v := sI G1 (sR G1 1 8 + 5) (Int32.toNatClampNeg x1)) (lhA4 hL hh) hin rfl rfl dX11_row_40 ?_
    exact E_iret rfl dX11_row_41 ⟨_, rfl, rfl, q0 z0⟩
end ROWT

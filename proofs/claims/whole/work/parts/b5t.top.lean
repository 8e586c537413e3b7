def R_law : String := "WordsAndRowsLaw"
def lw_P (b : Addr) (xs : List Int32) (args : Array Value) (s : State) : Prop := args = #[.ref b] ∧ s.IntsAt b xs ∧ xs.length ≤ 3584 ∧ (Jvm.Cond.and given_1 narrow_1).before args s = true
def lw_Q (_ : Array Value) (s : State) (o : Outcome) (t : State) : Prop := o = .returned (some (.int 1)) ∧ Framed s o t [] room_1.cells room_1.slots
def lw_Z (below : List Frame) (a : Array Value) (s : State) : State → Prop := fun t => ∃ o, t.status = .running ∧ Ended t below o ∧ lw_Q a s o t
/-- the law's own end, with 1 on the stack, nothing written that was there before, its room as the claim has it -/
theorem lw_ret {p : Program} {l : Launch} {e : Env} {s : State} {m : MethodId} {below : List Frame} {meth : Method} {c : Code} {b : Nat} (hx : p.tables.exec = Jvm.exec) (hb : c.code = code) (hr : meth.sig.returnType = ret) (hlocks : meth.locks = false) {pc : Nat} {H : Heap} {ls : Array Slot} (hdg : decode code pc = .ok (.ireturn, 1)) : W p l e room_1 s m #[Value.ref b] below meth c H [] room_1.cells room_1.slots (lw_Z below #[Value.ref b] s) (F0 m pc ls [.int 1]) := by
  intro T hT X
  obtain ⟨fs, hret, hrun, hended, hW, hframe⟩ := X.leave (v := some (.int 1)) (hlocks := hlocks) (fun h => by rw [hr] at h; cases h)
  have hmeth' : T.vm.method? m = some meth := X.method'
  refine ⟨T.setFrames fs, ?_, .returned (some (.int 1)), hrun, hended, rfl, ⟨_, rfl⟩, hW, hframe⟩
  jvm_step X.here [X.here.top, hx, hb, hdg, hmeth', hr, ret, narrow_b1]
  (try refine ⟨rfl, ?_⟩); (try refine ⟨rfl, ?_⟩)
  first | (intro acts; rw [hret _ acts rfl rfl rfl]) | rw [hret _ _ rfl rfl rfl]
  exact Steps.refl _
/-- what holds at the law's entry -/
def lw_At (p : Program) (s : State) (m : MethodId) (meth : Method) (c : Code) (b L : Nat) (xs : Nat → Int32) : Prop :=
  p.tables.exec = Jvm.exec ∧ c.code = code ∧ meth.sig.returnType = ret ∧ c.maxLocals = 7 ∧ s.vm.findClass R_law = some m.cls ∧ (∀ w ∈ lw_tbl, w.before #[Value.ref b] s = true) ∧ va_X b L xs s s.heap ∧ b < s.heap.size ∧ meth.locks = false ∧ (Jvm.Cond.and given_1 narrow_1).before #[Value.ref b] s = true ∧ meth.name = "law"
theorem kn_all {args : Array Value} {s : State} (hts : ∀ w ∈ lw_tbl, w.before args s = true) (ci : Nat) : ∃ (cC : ClassId) (iS : Nat → Nat), ∀ q, vwCl[ci]? = some q → u_Kn s q.1 q.2.1 q.2.2 cC iS := by
  match ci with
  | 0 =>
    obtain ⟨C, T, N, hc, hin, -⟩ := cl_0
    cases hc
    obtain ⟨cC, iS, h⟩ := u_known (n := 6) hts (fun w hw => lw_g_sub _ (hin w hw)) (hts _ (lw_g_sub _ tm_75))
    exact ⟨cC, iS, fun q hq => by cases hq; exact h⟩
  | 1 =>
    obtain ⟨C, T, N, hc, hin, -⟩ := cl_1
    cases hc
    obtain ⟨cC, iS, h⟩ := u_known (n := 11) hts (fun w hw => lw_g_sub _ (hin w hw)) (hts _ (lw_g_sub _ tm_280))
    exact ⟨cC, iS, fun q hq => by cases hq; exact h⟩
  | 2 =>
    obtain ⟨C, T, N, hc, hin, -⟩ := cl_2
    cases hc
    obtain ⟨cC, iS, h⟩ := u_known (n := 5) hts (fun w hw => lw_g_sub _ (hin w hw)) (hts _ (lw_g_sub _ tm_128))
    exact ⟨cC, iS, fun q hq => by cases hq; exact h⟩
  | 3 =>
    obtain ⟨C, T, N, hc, hin, -⟩ := cl_3
    cases hc
    obtain ⟨cC, iS, h⟩ := u_known (n := 2) hts (fun w hw => lw_g_sub _ (hin w hw)) (hts _ (lw_g_sub _ tm_265))
    exact ⟨cC, iS, fun q hq => by cases hq; exact h⟩
  | 4 =>
    obtain ⟨C, T, N, hc, hin, -⟩ := cl_4
    cases hc
    obtain ⟨cC, iS, h⟩ := u_known (n := 13) hts (fun w hw => lw_g_sub _ (hin w hw)) (hts _ (lw_g_sub _ tm_218))
    exact ⟨cC, iS, fun q hq => by cases hq; exact h⟩
  | 5 =>
    obtain ⟨C, T, N, hc, hin, -⟩ := cl_5
    cases hc
    obtain ⟨cC, iS, h⟩ := u_known (n := 2) hts (fun w hw => lw_g_sub _ (hin w hw)) (hts _ (lw_g_sub _ tm_61))
    exact ⟨cC, iS, fun q hq => by cases hq; exact h⟩
  | 6 =>
    obtain ⟨C, T, N, hc, hin, -⟩ := cl_6
    cases hc
    obtain ⟨cC, iS, h⟩ := u_known (n := 18) hts (fun w hw => lw_g_sub _ (hin w hw)) (hts _ (lw_g_sub _ tm_154))
    exact ⟨cC, iS, fun q hq => by cases hq; exact h⟩
  | 7 =>
    obtain ⟨C, T, N, hc, hin, -⟩ := cl_7
    cases hc
    obtain ⟨cC, iS, h⟩ := u_known (n := 6) hts (fun w hw => lw_g_sub _ (hin w hw)) (hts _ (lw_g_sub _ tm_31))
    exact ⟨cC, iS, fun q hq => by cases hq; exact h⟩
  | 8 =>
    obtain ⟨C, T, N, hc, hin, -⟩ := cl_8
    cases hc
    obtain ⟨cC, iS, h⟩ := u_known (n := 3) hts (fun w hw => lw_g_sub _ (hin w hw)) (hts _ (lw_g_sub _ tm_342))
    exact ⟨cC, iS, fun q hq => by cases hq; exact h⟩
  | 9 =>
    obtain ⟨C, T, N, hc, hin, -⟩ := cl_9
    cases hc
    obtain ⟨cC, iS, h⟩ := u_known (n := 4) hts (fun w hw => lw_g_sub _ (hin w hw)) (hts _ (lw_g_sub _ tm_106))
    exact ⟨cC, iS, fun q hq => by cases hq; exact h⟩
  | 10 =>
    obtain ⟨C, T, N, hc, hin, -⟩ := cl_10
    cases hc
    obtain ⟨cC, iS, h⟩ := u_known (n := 19) hts (fun w hw => lw_g_sub _ (hin w hw)) (hts _ (lw_g_sub _ tm_23))
    exact ⟨cC, iS, fun q hq => by cases hq; exact h⟩
  | 11 =>
    obtain ⟨C, T, N, hc, hin, -⟩ := cl_11
    cases hc
    obtain ⟨cC, iS, h⟩ := u_known (n := 57) hts (fun w hw => lw_g_sub _ (hin w hw)) (hts _ (lw_g_sub _ tm_1295))
    exact ⟨cC, iS, fun q hq => by cases hq; exact h⟩
  | k + 12 => exact ⟨0, fun _ => 0, fun q hq => by simp [vwCl] at hq⟩
theorem ar_all {args : Array Value} {s : State} {ty : FieldType} (h : (Cond.arrayClass ty).before args s = true) : ∃ cA, ArrOfT s cA ty ∧ s.vm.findClass ("[" ++ ty.toString) = some cA := by
  obtain ⟨c, k, comp, h1, h2, h3⟩ := Cond.arrayClass_spec h
  exact ⟨c, fun n z => ⟨fun k h => (by cases h), k, h2, comp, h3⟩, h1⟩
set_option maxHeartbeats 4000000 in
set_option maxRecDepth 20000 in
theorem fx_start {p : Program} {s : State} {m : MethodId} {meth : Method} {c : Code} {b L : Nat} {xs : Nat → Int32} (l : Launch) (C0 : lw_At p s m meth c b L xs) : ∃ K : KT, K.1 = l ∧ kb K + 1 = s.heap.size ∧ ks K = b ∧ kl K = L ∧ Fx K s s.heap := by
  obtain ⟨hx, hb, hr, hml, hown, hts, hX, hbl, hlocks, hgv, hnm⟩ := C0
  have hg := flat_of_before _ hgv
  have hk := kn_all hts
  obtain ⟨a0, p0, q0⟩ := ar_all (hts _ (lw_g_sub _ tm_103))
  obtain ⟨a1, p1, q1⟩ := ar_all (hts _ (lw_g_sub _ tm_104))
  obtain ⟨a2, p2, q2⟩ := ar_all (hts _ (lw_g_sub _ tm_59))
  obtain ⟨a3, p3, q3⟩ := ar_all (hts _ (lw_g_sub _ tm_152))
  have hA : ∀ a : Nat, a < s.heap.size → ¬ (fun q => s.heap.size - 1 < q) a := fun a h1 (h2 : s.heap.size - 1 < a) => by omega
  obtain ⟨t, ht, cell, c1, c2, c3, c4, c5, c6, c7⟩ := va_Tof (tm := .static "WordsAndRows$Words" "POWERS" "[J") (ty := .long) (N := 9) (f := fun j => .long (pw j)) (A := fun q => s.heap.size - 1 < q) (by decide) (hg _ (by decide +kernel)) (va_eqt (z := 9) (hg _ (by decide +kernel))) (fun j hj => by
    match j, hj with
    | 0, _ => exact va_eqtl (z := 1) (hg _ (by decide +kernel))
    | 1, _ => exact va_eqtl (z := 27) (hg _ (by decide +kernel))
    | 2, _ => exact va_eqtl (z := 729) (hg _ (by decide +kernel))
    | 3, _ => exact va_eqtl (z := 19683) (hg _ (by decide +kernel))
    | 4, _ => exact va_eqtl (z := 531441) (hg _ (by decide +kernel))
    | 5, _ => exact va_eqtl (z := 14348907) (hg _ (by decide +kernel))
    | 6, _ => exact va_eqtl (z := 387420489) (hg _ (by decide +kernel))
    | 7, _ => exact va_eqtl (z := 10460353203) (hg _ (by decide +kernel))
    | 8, _ => exact va_eqtl (z := 282429536481) (hg _ (by decide +kernel))
    | k + 9, h => exact absurd h (by omega)) hA
  refine ⟨(l, s.heap.size - 1, (fun ci => Classical.choose (hk ci), fun ci => Classical.choose (Classical.choose_spec (hk ci))), (fun t => match t with | 0 => a0 | 1 => a1 | 2 => a2 | _ => a3), t, b, L, xs), rfl, (show s.heap.size - 1 + 1 = s.heap.size by omega), rfl, rfl, ⟨fun ci q hq => Classical.choose_spec (Classical.choose_spec (hk ci)) q hq, fun k q hq => ?_⟩, ?_, ⟨cell, c1, c2, c3, c4, c6⟩, ?_, hX, (show b ≤ s.heap.size - 1 by omega), (show s.heap.size - 1 < s.heap.size by omega), ?_, ?_⟩
  · match k, hq with
    | 0, hq => cases hq; exact ⟨p0, q0⟩
    | 1, hq => cases hq; exact ⟨p1, q1⟩
    | 2, hq => cases hq; exact ⟨p2, q2⟩
    | 3, hq => cases hq; exact ⟨p3, q3⟩
    | k + 4, hq => simp [tysK] at hq
  · exact va_Zof (hts _ (List.mem_append_right _ (List.mem_of_getElem? (i := 723) (by decide +kernel)))) (hts _ (lw_g_sub _ tm_14)) ht hA
  · have h9 : t < s.heap.size := (Array.getElem?_eq_some_iff.mp c1).1
    show t ≤ s.heap.size - 1
    omega
  · intro w hw hb2
    refine va_Nw.of ?_ (hts w hw)
    cases w <;> first | rfl | exact absurd hb2 (fun q => by cases q)
  · exact ⟨vx_Zqof (hts _ (List.mem_append_right _ (List.mem_of_getElem? (i := 1250) (by decide +kernel)))) (hts _ (lw_g_sub _ tm_18)) (hg _ (by decide +kernel)) hA, vx_Zqof (hts _ (List.mem_append_right _ (List.mem_of_getElem? (i := 1252) (by decide +kernel)))) (hts _ (lw_g_sub _ tm_18)) (hg _ (by decide +kernel)) hA⟩
abbrev LawOK : Prop := ∀ K : KT, K.1.stackTraces = false → kl K ≤ 3584 → EvIa K mL_law 12 23 [(0, .float 1), (1, .ref 1), (2, .ref 66), (3, .ref 103), (4, .int 0)] [] sE (fun x G' => x = 1 ∧ nx G' ≤ room_1.cells ∧ su G' ≤ room_1.slots)
set_option maxHeartbeats 4000000 in
theorem whole_start {p : Program} {e : Env} {s : State} {m : MethodId} {below : List Frame} {meth : Method} {c : Code} (hlaw : LawOK) (l : Launch) (hl : l.stackTraces = false) {b L : Nat} {xs : Nat → Int32} (hL : L ≤ 3584) (C0 : lw_At p s m meth c b L xs) : W p l e room_1 s m #[Value.ref b] below meth c s.heap [] 0 0 (lw_Z below #[Value.ref b] s) (entryFrame m ([Value.ref b] : List Value).toArray 7) := by
  obtain ⟨K, rfl, hkb, hks, hkl, F⟩ := fx_start l C0
  obtain ⟨hx, hb, hr, hml, hown, hts, hX, hbl, hlocks, hgv, hnm⟩ := id C0
  obtain ⟨o, G', ⟨j1, j2, j3, j4⟩, x, rfl, rfl, hn, hs⟩ := kL_law_0 (hlaw K hl (by omega))
  have hl0 := lv_entry ([Value.ref b]) (n := 7) (Nat.le_of_ble_eq_true rfl)
  rw [lg_entry_eq]
  generalize (lg_sl ([Value.ref b]) ++ List.replicate (7 - (lg_sl ([Value.ref b])).length) Slot.unset).toArray = ls at hl0 ⊢
  have hl1 : lv_has ls 7 ([((0 : Nat), Value.float 1)].map (cp K)) := by
    show lv_has ls 7 [(0, cv K (.float 1))]
    rw [cv_f1, hks]
    exact hl0
  have hH : Hp K s0 s.heap := ⟨hkb.symm, by decide, fun i h0 h1 => absurd h1 (by show ¬ i < 1; omega)⟩
  refine j4 p e room_1 s m #[Value.ref b] below meth c s.heap [] 0 0 ls (lw_Z below #[Value.ref b] s) ⟨hx, hb, hml, hr, hown, fun w hw => hts w (lw_g_sub w hw), hlocks, hnm⟩ F hH (fun _ _ => rfl) (fun q hq => by cases hq) hl1 (by decide) (by decide) (show 0 + (nx G' - 1) ≤ room_1.cells by omega) (show 0 + (su G' - 0) ≤ room_1.slots by omega) (fun pc' ls' H' locs' d1 d2 d3 d4 => ?_)
  refine va_forget (fun q hq => by have := d4 q hq; omega) ?_
  refine W.widen (k := room_1.cells) (n := room_1.slots) (show 0 + (nx G' - 1) ≤ room_1.cells by omega) (show 0 + (su G' - 0) ≤ room_1.slots by omega) ?_
  exact lw_ret hx hb hr hlocks d1
set_option maxHeartbeats 4000000 in
theorem lw_walk (hlaw : LawOK) (l : Launch) (hl : l.stackTraces = false) (b : Addr) (xs : List Int32) : MetFree l x (headSpec (Jvm.Cond.code x code maxLocals ret :: tables_1) room_1) (lw_P b xs) (fun _ _ _ _ _ => True) lw_Q := by
  refine MetFree.of_bodyS (code := code) (maxLocals := maxLocals) (ret := ret) (by decide) ?_ ?_
  · intro args s m h hn
    obtain ⟨meth, c, h1, h2, h3, h4, h5, h6, -, -⟩ := Cond.code_spec hn (atoms_spec (ws := Jvm.Cond.code x code maxLocals ret :: tables_1) h _ List.mem_cons_self)
    exact ⟨meth, c, h1, h2, h3, h4, h5, h6⟩
  · intro p e s m args below meth c s₁ B hml0 hP _
    obtain ⟨rfl, hx, hbd, hgv⟩ := hP
    obtain ⟨scr, harrAt, hlist, hof, hsmall⟩ := hx
    obtain ⟨hcb, hkn, -, -⟩ := State.arrayAt?_spec harrAt
    have hown : s.vm.findClass R_law = some m.cls := findClass_of_methodNamed B.named
    have hts0 : ∀ c ∈ (Jvm.Cond.code x code maxLocals ret :: tables_1), c.before #[Value.ref b] s = true := atoms_spec (ws := Jvm.Cond.code x code maxLocals ret :: tables_1) B.pre
    have hts : ∀ w ∈ lw_tbl, w.before #[Value.ref b] s = true := k2_hts_sels lw_privs (fun w hw => hts0 w (List.mem_cons_of_mem _ hw)) lw_privs_ok
    have hml : c.maxLocals = 7 := B.maxLocals_eq (hts0 _ List.mem_cons_self)
    have X₀ : Stand p l e room_1 s m #[Value.ref b] below meth c s₁ [] 0 0 := Stand.of_body B
    have hh0 : s₁.heap = s.heap := by rw [B.state]; rfl
    have hsz : scr.slots.size = xs.length := by rw [← Array.length_toList, hlist, List.length_map]
    have hval : ∀ j : Nat, j < xs.length → scr.slots[j]? = some (.int (xs.getD j 0)) := fun j hj => by
      rw [← Array.getElem?_toList, hlist]
      simp [hj]
    have hbl : b < s.heap.size := (Array.getElem?_eq_some_iff.mp hcb).1
    have hX : va_X b xs.length (fun j => xs.getD j 0) s s.heap := ⟨scr, hcb, hof, hkn, hsz, hval⟩
    have K : W p l e room_1 s m #[Value.ref b] below meth c s₁.heap [] 0 0 (lw_Z below #[Value.ref b] s) (entryFrame m ([Value.ref b] : List Value).toArray 7) := by
      rw [hh0]
      exact whole_start hlaw l hl hbd ⟨B.exec, B.bytes, B.returns, hml, hown, hts, hX, hbl, B.notSynchronized, hgv, (name_of_methodNamed B.named B.method).1⟩
    obtain ⟨t, a1, o, b1, b2, b3⟩ := K s₁ rfl X₀
    exact ⟨t, o, a1, b1, b2, b3⟩
theorem lw_pre_spec {args : Array Value} {s : State} (h : (Jvm.Cond.and given_1 narrow_1).before args s = true) (hr : rest_1_c.before args s = true) : ∃ (b : Addr) (xs : List Int32), lw_P b xs args s := by
  have hs := flat_of_before _ h
  have hq := flat_of_before _ hr
  have hc : (Cond.count 1).before args s = true := hs _ (by decide +kernel)
  have harr : (Cond.arrayOf (.arg 0) .int).before args s = true := hs _ (by decide +kernel)
  have hle : (Cond.le (.length (.arg 0)) (.int 3584)).before args s = true := hs _ (by decide +kernel)
  have hlen : (Cond.isInt (.length (.arg 0))).before args s = true := hq _ (by decide +kernel)
  have hall : (Cond.all (.arg 0) (.isInt (.elem (.arg 0) (.index 0)))).before args s = true := hq _ (by decide +kernel)
  obtain ⟨b, xs, hb, hx⟩ := State.ints_of_pre rfl harr hlen hall
  have hsm : xs.length < 2 ^ 31 := hx.choose_spec.2.2.2
  have hev : (Term.length (.arg 0)).eval args s none [] s = some (.int xs.length.toInt32) := hx.length_eval hb
  have hv := Cond.le_ints hev (show (Term.int 3584).eval args s none [] s = some (.int 3584) from rfl)
  have hd : xs.length.toInt32 ≤ 3584 := by
    simpa [Cond.before, Cond.holds, hv] using hle
  have hN : xs.length ≤ 3584 := (Int32.ofNat_le_ofNat hsm (by decide)).mp (show Int32.ofNat xs.length ≤ Int32.ofNat 3584 from hd)
  exact ⟨b, xs, Cond.one_arg hc (show args[0]? = some (.ref b) from hb), hx, hN, h⟩
theorem lw_comes (hlaw : LawOK) (l : Launch) (hl : l.stackTraces = false) : Comes l x (Jvm.Cond.code x code maxLocals ret :: tables_1) room_1 (fun tb e args s => Calls_1 tb e args s ∧ rest_1 tb e args s ∧ Pre_1 tb e args s)
    (fun _ _ args s o t => lw_Q args s o t) := by
  intro p e ha hc hk s m args below hf hfit hheap happ hpre
  obtain ⟨b, xs, hP⟩ := lw_pre_spec hpre.2.2 hpre.2.1
  obtain ⟨k, o, h1, h2, h3, hQ⟩ := lw_walk hlaw l hl b xs p e ha hc hk s m args below hf ((Spec.applies_iff_loose hf).mp happ).1 hP trivial
  exact ⟨k, o, h1, h2, h3, hQ⟩
theorem lw_frame {s t : State} {o : Outcome} {args : Array Value} (h : Framed s o t [] room_1.cells room_1.slots) :
    Framed s o t (fieldLocs frame_1_writes args s ++ arrayLocs frame_1_arrays args s ++ staticLocs frame_1_statics s) room_1.cells room_1.slots := h
theorem lw_limb (hlaw : LawOK) (L : Cond) (hL : ∀ (args : Array Value) (s t : State), L.after args s (.returned (some (.int 1))) t = true) :
    ArmFor flags0 classFile x code maxLocals ret World_1 tables_1 room_1 Calls_1 rest_1 Pre_1
      (fun tb e a s o t => postC L tb e a s o t ∧ Framed s o t (fieldLocs frame_1_writes a s ++ arrayLocs frame_1_arrays a s ++ staticLocs frame_1_statics s) room_1.cells room_1.slots) := by
  intro l hfl0 hfl1 hfl2 p e ha hc hk s m args below hf hfit hheap happ hpre
  obtain ⟨k, o, h1, h2, h3, rfl, hF⟩ := lw_comes hlaw l (by first | (simp [Launch.stackTraces, hfl0, flags0]; done) | (simp [Launch.stackTraces, hfl1, flags0]; done) | (simp [Launch.stackTraces, hfl2, flags0]; done)) p e ha hc hk s m args below hf hfit hheap happ hpre
  exact ⟨k, _, h1, h2, h3, hL args s _, lw_frame hF⟩
theorem i_vc_of (hlaw : LawOK) : Claimed_1_1 ∧ Claimed_1_2 := ⟨lw_limb hlaw limb_1_1 (fun args s t => by simp [limb_1_1, Cond.after, Cond.holds, Cond.value]), lw_limb hlaw limb_1_2 (fun args s t => Cond.after_iff.mpr (by
  first | (rw [show limb_1_2 = Cond.eq .result (.int 1) from rfl, Cond.eq_ints (x := 1) (y := 1) rfl rfl]; simp; done) | (simp [limb_1_2, Cond.value, Term.eval]; done)))⟩


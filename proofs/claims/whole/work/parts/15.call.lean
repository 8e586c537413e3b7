theorem Fx.moved {K : KT} {u U : State} {H : Heap} (hvm : u.vm.Alike U.vm) (hN : Nw u → Nw U) (h : Fx K u H) : Fx K U H := by
  obtain ⟨h1, h2, ⟨cell, a1, a2, a3⟩, h4, h5, h6, h7, h8, h9⟩ := h
  exact ⟨h1.moved hvm, h2.moved hvm, ⟨cell, a1, State.isArrayOf_alike hvm a2, a3⟩, h4, h5.moved hvm, h6, h7, hN h8, h9.1.moved hvm, h9.2.moved hvm⟩
theorem Fx.kept {K : KT} {U : State} {H H1 : Heap} (h : Fx K U H) (hF : Fr K H H1) (hz : kb K < H1.size) : Fx K U H1 := by
  obtain ⟨h1, h2, ⟨cell, a1, a2⟩, h4, h5, h6, h7, h8, h9⟩ := h
  exact ⟨h1, h2.kept (fun a _ ha => hF a (Nat.not_lt.mp ha)), ⟨cell, by rw [hF _ h4]; exact a1, a2⟩, h4, h5.kept (hF _ h6), h6, hz, h8, h9.1.kept (fun a _ ha => hF a (Nat.not_lt.mp ha)), h9.2.kept (fun a _ ha => hF a (Nat.not_lt.mp ha))⟩
def CM (M2 : MT) (n : Nat) : Prop := Cond.code M2.1 M2.2.1 M2.2.2.1 M2.2.2.2 ∈ lw_g ∧ Cond.initialized M2.1.cls ∈ lw_g ∧ plainFor M2.1 = true ∧ (M2.1.cls ≠ "java/lang/invoke/MethodHandle" ∧ M2.1.cls ≠ "java/lang/invoke/VarHandle" ∧ (parseMethodDescriptor M2.1.desc).map (fun d => d.parameters.length) = some n) ∧ M2.2.2.1 ≤ 22
def CV (own : String) (idx : Nat) (M2 : MT) : Prop := Cond.methodLink own idx M2.1 ∈ lw_g ∧ Cond.instanceMethod M2.1 ∈ lw_g ∧ Cond.selects M2.1.cls M2.1 M2.1 ∈ lw_g
def CS (own : String) (idx : Nat) (M2 : MT) : Prop := Cond.methodLink own idx M2.1 ∈ lw_g ∧ Cond.static M2.1 ∈ lw_g
def CI (own : String) (idx : Nat) (M2 : MT) : Prop := Cond.methodLink own idx M2.1 ∈ lw_g ∧ M2.1.name = "<init>" ∧ Cond.instanceMethod M2.1 ∈ lw_g
def CIN (own : String) (idx : Nat) (M2 : MT) (host : String) : Prop := Cond.methodLinkNest own idx M2.1 host ∈ lw_tbl ∧ M2.1.name = "<init>" ∧ Cond.instanceMethod M2.1 ∈ lw_g
theorem mws_good {M2 : MT} (h : Cond.code M2.1 M2.2.1 M2.2.2.1 M2.2.2.2 ∈ lw_g) : GoodIn lw_g (mws M2) := by
  intro w hw
  rcases List.mem_cons.mp hw with rfl | hw
  · exact ⟨h, good_of_word (lw_good _ h)⟩
  · exact ⟨hw, good_of_word (lw_good _ hw)⟩
section CALLS
variable {K : KT} {M : MT} {d pc : Nat} {lv : List (Nat × Value)} {st : List Value} {G : St} {post : Option Value → St → Prop}
theorem mPc_blind {as : List Value} : FrameBlind (mPc K as G) := fun a U g mk q => by
  obtain ⟨q0, q1, q2⟩ := q
  exact ⟨q0, Fx.moved (u := U) (U := U.calling g mk a) (Vm.Alike.refl U.vm) (fun h => Nw.same (s := U) (U := U.calling g mk a) rfl h) q1, q2⟩
theorem mPc_at {as : List Value} {s : State} {H : Heap} (F : Fx K s s.heap) (hH : Hp K G H) (hF : Fr K s.heap H) (U : State) (hU : U.heap = H) (hW : s.WarmedH U.vm) : mPc K as G (as.map (cv K)).toArray U :=
  ⟨rfl, by rw [hU]; exact (F.kept hF (by rw [hH.1]; have := hH.2.1; omega)).moved hW.alike (fun h => h.warm hW), by rw [hU]; exact hH⟩
theorem W_callG {p : Program} {e : Env} {R : Room} {s : State} {m : MethodId} {args : Array Value} {below : List Frame} {meth : Method} {c : Code} {H : Heap} {locs : List Loc} {cells slots mc ms : Nat} {Q : State → Prop} {ls : Array Slot} {rest st0 : List Value} {a : Array Value} {r : Option Value} {G1 : St}
    (hr : va_Run p K.1 e R s m args below meth c H locs cells slots mc ms (F0 m pc ls st0) rest (mQc K r G1 a) (fun q => kb K < q)) (hF : Fr K s.heap H) (hl : ∀ q ∈ locs, kb K < q.base)
    (kk : ∀ (H1 : Heap) (locs1 : List Loc), Hp K G1 H1 → Fr K s.heap H1 → (∀ q ∈ locs1, kb K < q.base) → W p K.1 e R s m args below meth c H1 locs1 (cells + mc) (slots + ms) Q (F0 m (pc + 3) ls ((r.map (cv K)).toList ++ rest))) : W p K.1 e R s m args below meth c H locs cells slots Q (F0 m pc ls st0) := by
  intro T hT X
  obtain ⟨v, st₀, t, T', L, h0, X', hL, e1, e2, ⟨hv, hp, hf⟩, stp⟩ := hr T hT X
  cases hv
  rw [h0] at hf
  obtain ⟨t2, a1, b1⟩ := kk T'.heap (locs ++ L) (by rw [e1]; exact hp) (fun q hq => by rw [e1, hf q hq]; exact hF q hq) (fun q hq => by
    rcases List.mem_append.mp hq with h | h
    · exact hl q h
    · exact hL q h) T' rfl X'
  exact ⟨t2, stp t2 a1, b1⟩
theorem map_rev_app (as : List Value) (v : Value) : (as.reverse ++ v :: st).map (cv K) = (as.map (cv K)).reverse ++ cv K v :: st.map (cv K) := by simp
theorem tl_map (r : Option Value) : ((r.toList ++ st).map (cv K)) = (r.map (cv K)).toList ++ st.map (cv K) := by cases r <;> simp
theorem cat_sum : ((st.map (cv K)).map fun v => v.category).sum = (st.map fun v => v.category).sum := by
  rw [List.map_map]
  congr 1
  apply List.map_congr_left
  intro v _
  exact cv_cat K v
/-- a call of a method of a thing -/
theorem E_callV {M2 : MT} {d2 idx n i ci : Nat} {as stk : List Value} {post1 : Option Value → St → Prop} (hM : CM M2 n) (hV : CV M.1.cls idx M2) (hcn : ∃ T N, vwCl[ci]? = some (M2.1.cls, T, N)) (hci : ci < 12) (hk : sK G i = ci) (h0 : 0 < i) (hi : i < nx G) (hstk : stk = as.reverse ++ .ref i :: st) (hn : as.length = n) (hd : d2 < d) (hlen : (lg_sl (.ref i :: as)).length ≤ M2.2.2.1) (hroom : (st.map fun v => v.category).sum ≤ 8) (hdg : decode M.2.1 pc = .ok (.invokevirtual idx, 3))
    (hc : EvC K M2 d2 (.ref i :: as) G post1) (h : ∀ r G1, post1 r G1 → Ev K M d (pc + 3) lv (r.toList ++ st) G1 post) : Ev K M d pc lv stk G post := by
  obtain ⟨r, G1, hJ, hp1⟩ := hc
  subst hstk
  obtain ⟨T, N, hcT⟩ := hcn
  have hm := met_of_J hJ hM.2.2.1 hlen
  refine E_goA hJ.1 hJ.2.1 (fun p e R s m args below meth c H locs cells slots ls Q C F hH hF hl hlv hd1 hd2 hcs hss kk => ?_) (h r G1 hp1)
  have hob := (hH.2.2 i h0 hi).2.2.2.2 (by omega)
  rw [hk] at hob
  obtain ⟨cell, q1, q2, q3, -⟩ := hob
  obtain ⟨-, hfc, -⟩ := F.1.1 ci _ hcT
  have cb : CallB R s args M.1.cls idx M2.1 M2.2.1 M2.2.2.1 M2.2.2.2 (mws M2) (mrm d2 (nx G1 - nx G) (su G1 - su G)) (nx G1 - nx G) (su G1 - su G) n := callB_of n C.2.2.2.2.2.1 (mws_good hM.1) rfl rfl rfl (C.2.2.2.2.2.1 _ hM.2.1) (C.2.2.2.2.2.1 _ hV.1) hM.2.2.2.1 ⟨(by show d2 + 1 ≤ R.frames; omega), (by show 8 + (M2.2.2.1 + 11) + 41 * d2 ≤ R.locals; have := hM.2.2.2.2; omega)⟩
  have hrun := va_runV (g := F0 m pc ls ((as.reverse ++ .ref i :: st).map (cv K))) (As := as.map (cv K)) (rest := st.map (cv K)) (b := kb K + i) (H := H) (locs := locs) (cells := cells) (slots := slots) (e := e) (below := below) (meth := meth) (cc := M.2.1) (nL := M.2.2.1) ⟨C.1, C.2.1, C.2.2.1, C.2.2.2.2.1, C.2.2.2.2.2.1⟩ hm ⟨cb, C.2.2.2.2.2.1 _ hV.2.1, C.2.2.2.2.2.1 _ hV.2.2⟩ ⟨mPc_blind, ⟨cell, q1, by rw [q3]; rfl, by rw [q2]; exact hfc⟩, fun U hU hW => mPc_at (as := .ref i :: as) F hH hF U hU hW⟩ rfl (by rw [List.length_map]; exact hn) hlv.1 (map_rev_app as (.ref i)) (lv_room (by rw [cat_sum]; exact hroom)) hdg ⟨hcs, hss⟩
  refine W_callG hrun hF hl (fun H1 locs1 a1 a2 a3 => ?_)
  rw [← tl_map]
  exact kk H1 locs1 a1 a2 a3
end CALLS

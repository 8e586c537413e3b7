def hRow : List (Nat × Nat × Nat × Nat) := [(0, 10, 13, 13)]
theorem tr_1217 : Cond.codeWith yL_row cL_row 5 (some .int) hRow ∈ lw_g := List.mem_filter.mpr ⟨List.mem_append_right _ (List.mem_of_getElem? (i := 1217) (by decide +kernel)), by decide +kernel⟩
theorem tr_1216 : Cond.static yL_row ∈ lw_g := List.mem_filter.mpr ⟨List.mem_append_right _ (List.mem_of_getElem? (i := 1216) (by decide +kernel)), by decide +kernel⟩
theorem tr_0 : Cond.initialized RL ∈ lw_g := List.mem_filter.mpr ⟨List.mem_append_right _ (List.mem_of_getElem? (i := 0) (by decide +kernel)), by decide +kernel⟩
abbrev wRow : List Cond := Cond.codeWith yL_row cL_row 5 (some .int) hRow :: lw_g
/-- the law's own 'row': what it answers, and the store behind it (a throw is caught there) -/
def RowM (K : KT) (d : Nat) (p0 p1 : Int32) (G : St) (o : Int32) (G' : St) : Prop := nx G ≤ nx G' ∧ su G ≤ su G' ∧ Met K.1 yL_row wRow (mrm d (nx G' - nx G) (su G' - su G)) (mPc K [.ref 1, .int p0, .int p1, .ref 103] G) (mQc K (some (.int o)) G') (nx G' - nx G) (su G' - su G) (fun q => kb K < q)
def RowC (K : KT) (p0 p1 : Int32) (G : St) (Q : Int32 → St → Prop) : Prop := ∃ o G', RowM K 7 p0 p1 G o G' ∧ Q o G'
theorem wRow_good : GoodIn lw_g wRow := by
  intro w hw
  rcases List.mem_cons.mp hw with rfl | hw
  · exact ⟨tr_1217, good_of_word (lw_good _ tr_1217)⟩
  · exact ⟨hw, good_of_word (lw_good _ hw)⟩
theorem E_callRow {K : KT} {pc idx : Nat} {lv : List (Nat × Value)} {G : St} {post : Option Value → St → Prop} {p0 p1 : Int32} {Q : Int32 → St → Prop} (hl : Cond.methodLink RL idx yL_row ∈ lw_g) {st : List Value} (hroom : (st.map fun v => v.category).sum ≤ 8) (hdg : decode mL_law.2.1 pc = .ok (.invokestatic idx, 3)) (hc : RowC K p0 p1 G Q) (h : ∀ o G1, Q o G1 → Ev K mL_law 12 (pc + 3) lv (.int o :: st) G1 post) : Ev K mL_law 12 pc lv (.ref 103 :: .int p1 :: .int p0 :: .ref 1 :: st) G post := by
  obtain ⟨o, G1, ⟨h1, h2, hm⟩, hq⟩ := hc
  refine E_goA h1 h2 (fun p e R s m args below meth c H locs cells slots ls Q C F hH hF hl2 hlv hd1 hd2 hcs hss kk => ?_) (h o G1 hq)
  have cb : vx_CSW R s args RL idx yL_row cL_row 5 (some .int) hRow wRow (mrm 7 (nx G1 - nx G) (su G1 - su G)) (nx G1 - nx G) (su G1 - su G) 4 := by
    refine ⟨⟨rfl, rfl, (by show 7 + 1 ≤ R.frames; omega), (by show 8 + (5 + 11) + 41 * 7 ≤ R.locals; omega), pay_in C.2.2.2.2.2.1 wRow_good, List.mem_cons_self⟩, C.2.2.2.2.2.1 _ tr_1217, C.2.2.2.2.2.1 _ tr_0, (by decide +kernel), fun sig h => ?_, C.2.2.2.2.2.1 _ hl, C.2.2.2.2.2.1 _ tr_1216⟩
    have h9 : (parseMethodDescriptor yL_row.desc).map (fun d => d.parameters.length) = some 4 := by decide +kernel
    rw [h] at h9
    exact (Option.some.inj h9).symm
  have hrun := vx_runSW (Ts := lw_g) (g := F0 m pc ls ((.ref 103 :: .int p1 :: .int p0 :: .ref 1 :: st).map (cv K))) (As := [.ref 1, .int p0, .int p1, .ref 103].map (cv K)) (rest := st.map (cv K)) (H := H) (locs := locs) (cells := cells) (slots := slots) (e := e) (below := below) (meth := meth) (cc := mL_law.2.1) (nL := mL_law.2.2.1) ⟨C.1, C.2.1, C.2.2.1, C.2.2.2.2.1, C.2.2.2.2.2.1⟩ hm cb ⟨mPc_blind, fun U hU hW => mPc_at (as := [.ref 1, .int p0, .int p1, .ref 103]) F hH hF U hU hW⟩ rfl rfl hlv.1 (by simp [cv]) (lv_room (by rw [cat_sum]; exact hroom)) hdg ⟨hcs, hss⟩
  refine W_callG hrun hF hl2 (fun H1 locs1 a1 a2 a3 => ?_)
  exact kk H1 locs1 a1 a2 a3

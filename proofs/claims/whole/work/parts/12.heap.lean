/-! the instructions that touch cells -/
def clOK (ci : Nat) : Prop := ∃ (C : String) (T : u_T) (N : Nat), vwCl[ci]? = some (C, T, N) ∧ (∀ w ∈ u_ws C T N, w ∈ lw_g) ∧ (∀ k, k < N → parseFieldDescriptor (T k).2.2.1 = some (tyOf ci k)) ∧ (∀ a, a < N → ∀ b, b < N → a ≠ b → (T a).2.1 ≠ (T b).2.1)
def FL (own : String) (idx ci k : Nat) (fin : Bool) : Prop := ∃ (C : String) (T : u_T) (N : Nat), vwCl[ci]? = some (C, T, N) ∧ k < N ∧ Cond.fieldLink own idx (T k).1 (T k).2.1 (T k).2.2.1 ∈ lw_g ∧ (T k).2.2.2 = fin ∧ (T k).1 = C
theorem nfOf_eq {ci : Nat} {C : String} {T : u_T} {N : Nat} (h : vwCl[ci]? = some (C, T, N)) : nfOf ci = N := by rw [nfOf, h]
def Ag (G G1 : St) (j : Nat) : Prop := sI G1 j = sI G j ∧ sL G1 j = sL G j ∧ sR G1 j = sR G j ∧ sN G1 j = sN G j ∧ sK G1 j = sK G j
theorem fv_ag {K : KT} {G G1 : St} {j : Nat} (h : Ag G G1 j) : fv K G1 j = fv K G j := by
  obtain ⟨h1, h2, h3, -, h5⟩ := h
  funext k
  unfold fv
  rw [h1, h2, h3, h5]
theorem Cat.ag {K : KT} {G G1 : St} {H H1 : Heap} {j : Nat} (h : Cat K G H j) (ha : Ag G G1 j) (hq : H1[kb K + j]? = H[kb K + j]?) : Cat K G1 H1 j := by
  have hf := fv_ag (K := K) ha
  obtain ⟨h1, h2, h3, h4, h5⟩ := ha
  obtain ⟨c1, c2, c3, c4, c5⟩ := h
  unfold Cat
  rw [h1, h2, h4, h5, hq, hf]
  exact ⟨c1, c2, c3, c4, fun q => (c5 q).kept hq⟩
theorem up_at {α : Type} (f : Nat → α) (i : Nat) (v : α) : va_up f i v i = v := by simp [va_up]
theorem up_ne {α : Type} (f : Nat → α) {i j : Nat} (v : α) (h : j ≠ i) : va_up f i v j = f j := by simp [va_up, h]
theorem ag_uI {G : St} {i k j : Nat} {v : Int32} (h : j ≠ i) : Ag G (uI G i k v) j := ⟨up_ne _ _ h, rfl, rfl, rfl, rfl⟩
theorem ag_uL {G : St} {i k j : Nat} {v : Int64} (h : j ≠ i) : Ag G (uL G i k v) j := ⟨rfl, up_ne _ _ h, rfl, rfl, rfl⟩
theorem ag_uR {G : St} {i k j v : Nat} (h : j ≠ i) : Ag G (uR G i k v) j := ⟨rfl, rfl, up_ne _ _ h, rfl, rfl⟩
theorem ag_uN {G : St} {kd n j : Nat} (h : j ≠ nx G) : Ag G (uN G kd n) j := ⟨up_ne _ _ h, up_ne _ _ h, up_ne _ _ h, up_ne _ _ h, up_ne _ _ h⟩
theorem sI_uI (G : St) (i k : Nat) (v : Int32) : sI (uI G i k v) i = upd (sI G i) k v := up_at _ _ _
theorem sL_uL (G : St) (i k : Nat) (v : Int64) : sL (uL G i k v) i = vp_updL (sL G i) k v := up_at _ _ _
theorem sR_uR (G : St) (i k v : Nat) : sR (uR G i k v) i = va_up (sR G i) k v := up_at _ _ _
/-- one cell is written: the store is the new one -/
theorem Hp.put {K : KT} {G G1 : St} {H H1 : Heap} {i : Nat} (h : Hp K G H) (hn : nx G1 = nx G) (hz : H1.size = H.size) (ho : ∀ q : Nat, q ≠ kb K + i → H1[q]? = H[q]?) (ha : ∀ j, j ≠ i → Ag G G1 j) (hc : Cat K G1 H1 i) : Hp K G1 H1 := by
  refine ⟨by rw [hz, hn]; exact h.1, by rw [hn]; exact h.2.1, fun j h0 hj => ?_⟩
  rw [hn] at hj
  by_cases e : j = i
  · rw [e]; exact hc
  · exact (h.2.2 j h0 hj).ag (ha j e) (ho _ (by omega))
theorem Fr.put {K : KT} {H0 H H1 : Heap} {i : Nat} (h : Fr K H0 H) (h0 : 0 < i) (ho : ∀ q : Nat, q ≠ kb K + i → H1[q]? = H[q]?) : Fr K H0 H1 := fun q hq => (ho q (by omega)).trans (h q hq)
theorem locs_put {K : KT} {locs : List Loc} {i k : Nat} (h : ∀ q ∈ locs, kb K < q.base) (h0 : 0 < i) : ∀ q ∈ locs ++ [⟨kb K + i, k⟩], kb K < q.base := by
  intro q hq
  rcases List.mem_append.mp hq with h1 | h1
  · exact h q h1
  · rw [List.mem_singleton.mp h1]; show kb K < kb K + i; omega
/-- what lies behind one cell more -/
theorem Hp.new {K : KT} {G : St} {H H1 : Heap} {kd n : Nat} (h : Hp K G H) (hz : H1.size = H.size + 1) (ho : ∀ q : Nat, q < H.size → H1[q]? = H[q]?) (hc : Cat K (uN G kd n) H1 (nx G)) : Hp K (uN G kd n) H1 := by
  have e1 : nx (uN G kd n) = nx G + 1 := rfl
  refine ⟨by rw [hz, e1, h.1]; omega, by omega, fun j h0 hj => ?_⟩
  by_cases e : j = nx G
  · rw [e]; exact hc
  · exact (h.2.2 j h0 (by omega)).ag (ag_uN e) (ho _ (by rw [h.1]; omega))
section RULESC
variable {K : KT} {M : MT} {d pc : Nat} {lv : List (Nat × Value)} {st : List Value} {G : St} {post : Option Value → St → Prop}
theorem E_goA {pc' : Nat} {st' : List Value} {G1 : St} (hnx : nx G ≤ nx G1) (hsu : su G ≤ su G1) (hw : ∀ (p : Program) (e : Env) (R : Room) (s : State) (m : MethodId) (args : Array Value) (below : List Frame) (meth : Method) (c : Code) (H : Heap) (locs : List Loc) (cells slots : Nat) (ls : Array Slot) (Q : State → Prop), Cx p s m args meth c M → Fx K s s.heap → Hp K G H → Fr K s.heap H → (∀ q ∈ locs, kb K < q.base) → lv_has ls M.2.2.1 (lv.map (cp K)) → d ≤ R.frames → 41 * d ≤ R.locals → cells + (nx G1 - nx G) ≤ R.cells → slots + (su G1 - su G) ≤ R.slots →
      (∀ (H1 : Heap) (locs1 : List Loc), Hp K G1 H1 → Fr K s.heap H1 → (∀ q ∈ locs1, kb K < q.base) → W p K.1 e R s m args below meth c H1 locs1 (cells + (nx G1 - nx G)) (slots + (su G1 - su G)) Q (F0 m pc' ls (st'.map (cv K)))) → W p K.1 e R s m args below meth c H locs cells slots Q (F0 m pc ls (st.map (cv K)))) (h : Ev K M d pc' lv st' G1 post) : Ev K M d pc lv st G post := by
  obtain ⟨o, G', ⟨h1, h2, h3, h4⟩, hp⟩ := h
  refine ⟨o, G', ⟨Nat.le_trans hnx h1, Nat.le_trans hsu h2, h3, ?_⟩, hp⟩
  intro p e R s m args below meth c H locs cells slots ls Q C F hH hF hl hlv hd1 hd2 hc hs k
  refine hw p e R s m args below meth c H locs cells slots ls Q C F hH hF hl hlv hd1 hd2 (by omega) (by omega) (fun H1 locs1 hH1 hF1 hl1 => ?_)
  refine h4 p e R s m args below meth c H1 locs1 _ _ ls Q C F hH1 hF1 hl1 hlv hd1 hd2 (by omega) (by omega) (fun pc' ls' H' locs' a1 a2 a3 a4 => ?_)
  rw [show cells + (nx G1 - nx G) + (nx G' - nx G1) = cells + (nx G' - nx G) by omega, show slots + (su G1 - su G) + (su G' - su G1) = slots + (su G' - su G) by omega]
  exact k pc' ls' H' locs' a1 a2 a3 a4
/-- a read -/
theorem E_goR {pc' : Nat} {st' : List Value} (hw : ∀ (p : Program) (e : Env) (R : Room) (s : State) (m : MethodId) (args : Array Value) (below : List Frame) (meth : Method) (c : Code) (H : Heap) (locs : List Loc) (cells slots : Nat) (ls : Array Slot) (Q : State → Prop), Cx p s m args meth c M → Fx K s s.heap → Hp K G H → Fr K s.heap H →
      W p K.1 e R s m args below meth c H locs cells slots Q (F0 m pc' ls (st'.map (cv K))) → W p K.1 e R s m args below meth c H locs cells slots Q (F0 m pc ls (st.map (cv K)))) (h : Ev K M d pc' lv st' G post) : Ev K M d pc lv st G post := by
  refine E_goA (G1 := G) (Nat.le_refl _) (Nat.le_refl _) (fun p e R s m args below meth c H locs cells slots ls Q C F hH hF hl hlv _ _ hc hs k => ?_) h
  have k1 := k H locs hH hF hl
  rw [Nat.sub_self, Nat.sub_self] at k1
  exact hw p e R s m args below meth c H locs cells slots ls Q C F hH hF k1
/-- a write: no cell more -/
theorem E_goS {pc' : Nat} {st' : List Value} {G1 : St} (hnx : nx G1 = nx G) (hsu : su G1 = su G) (hw : ∀ (p : Program) (e : Env) (R : Room) (s : State) (m : MethodId) (args : Array Value) (below : List Frame) (meth : Method) (c : Code) (H : Heap) (locs : List Loc) (cells slots : Nat) (ls : Array Slot) (Q : State → Prop), Cx p s m args meth c M → Fx K s s.heap → Hp K G H → Fr K s.heap H → (∀ q ∈ locs, kb K < q.base) →
      (∀ (H1 : Heap) (locs1 : List Loc), Hp K G1 H1 → Fr K s.heap H1 → (∀ q ∈ locs1, kb K < q.base) → W p K.1 e R s m args below meth c H1 locs1 cells slots Q (F0 m pc' ls (st'.map (cv K)))) → W p K.1 e R s m args below meth c H locs cells slots Q (F0 m pc ls (st.map (cv K)))) (h : Ev K M d pc' lv st' G1 post) : Ev K M d pc lv st G post := by
  refine E_goA (G1 := G1) (by omega) (by omega) (fun p e R s m args below meth c H locs cells slots ls Q C F hH hF hl hlv _ _ hc hs k => ?_) h
  refine hw p e R s m args below meth c H locs cells slots ls Q C F hH hF hl (fun H1 locs1 a1 a2 a3 => ?_)
  have k1 := k H1 locs1 a1 a2 a3
  rw [hnx, hsu, Nat.sub_self, Nat.sub_self] at k1
  exact k1
theorem E_get {idx ci k i : Nat} {fin : Bool} {v : Value} (hcl : clOK ci) (hF : FL M.1.cls idx ci k fin) (hci : ci < 12) (hk : sK G i = ci) (h0 : 0 < i) (hi : i < nx G) (hv : fv K G i k = cv K v) (hdg : decode M.2.1 pc = .ok (.getfield idx, 3)) (h : Ev K M d (pc + 3) lv (v :: st) G post) : Ev K M d pc lv (.ref i :: st) G post := by
  refine E_goR (fun p e R s m args below meth c H locs cells slots ls Q C F hH hFr kk => ?_) h
  obtain ⟨hx, hb, -, -, hown, hts, -, -⟩ := C
  obtain ⟨C, T, N, hc, hin, hty, hnm⟩ := hcl
  obtain ⟨C', T', N', hc', hkN, hlink, -, hC⟩ := hF
  cases hc.symm.trans hc'
  have hob := (hH.2.2 i h0 hi).2.2.2.2 (by omega)
  rw [hk, nfOf_eq hc] at hob
  obtain ⟨cell, q1, q2, q3, q4⟩ := hob
  obtain ⟨hS, hfc, kC, hkC, hkind⟩ := F.1.1 ci _ hc
  obtain ⟨cf, kf, fi, f, hfi, hsl⟩ := hS k hkN
  refine W.getf hx hb hown (hts _ hlink) hfi (u_facts hfc hkC (u_lays hts hin hkN) hfi).1 q1 (by rw [q3]; exact fun h => by cases h) (v := fv K G i k) ?_ rfl rfl hdg (by rw [hv]; exact kk)
  rw [hsl, q4 k hkN]
def isIt (ty : FieldType) : Bool := match ty with
  | .int => true
  | .boolean => true
  | _ => false
def isRt (ty : FieldType) : Bool := match ty with
  | .object _ => true
  | .array _ => true
  | _ => false
theorem fv_int {i k ci : Nat} (hk : sK G i = ci) (ht : isIt (tyOf ci k) = true) : fv K G i k = .int (sI G i k) := by
  unfold fv; rw [hk]
  generalize tyOf ci k = ty at ht ⊢
  cases ty <;> first | rfl | exact absurd ht (fun q => by cases q)
theorem fv_long {i k ci : Nat} (hk : sK G i = ci) (ht : tyOf ci k = .long) : fv K G i k = .long (sL G i k) := by
  unfold fv; rw [hk, ht]
theorem fv_ref {i k ci j : Nat} (hk : sK G i = ci) (ht : isRt (tyOf ci k) = true) (hr : sR G i k = j) (hj : 0 < j) : fv K G i k = .ref (kb K + j) := by
  unfold fv; rw [hk, hr]
  have hb : (j == 0) = false := by simp; omega
  generalize tyOf ci k = ty at ht ⊢
  cases ty <;> first | (simp only [hb]; rfl) | exact absurd ht (fun q => by cases q)
theorem E_getI {idx ci k i : Nat} {fin : Bool} (hcl : clOK ci) (hF : FL M.1.cls idx ci k fin) (hci : ci < 12) (ht : isIt (tyOf ci k) = true) (hk : sK G i = ci) (h0 : 0 < i) (hi : i < nx G) (hdg : decode M.2.1 pc = .ok (.getfield idx, 3)) (h : Ev K M d (pc + 3) lv (.int (sI G i k) :: st) G post) : Ev K M d pc lv (.ref i :: st) G post :=
  E_get hcl hF hci hk h0 hi (fv_int hk ht) hdg h
theorem E_getL {idx ci k i : Nat} {fin : Bool} (hcl : clOK ci) (hF : FL M.1.cls idx ci k fin) (hci : ci < 12) (ht : tyOf ci k = .long) (hk : sK G i = ci) (h0 : 0 < i) (hi : i < nx G) (hdg : decode M.2.1 pc = .ok (.getfield idx, 3)) (h : Ev K M d (pc + 3) lv (.long (sL G i k) :: st) G post) : Ev K M d pc lv (.ref i :: st) G post :=
  E_get hcl hF hci hk h0 hi (fv_long hk ht) hdg h
theorem E_getR {idx ci k i j : Nat} {fin : Bool} (hcl : clOK ci) (hF : FL M.1.cls idx ci k fin) (hci : ci < 12) (ht : isRt (tyOf ci k) = true) (hk : sK G i = ci) (h0 : 0 < i) (hi : i < nx G) (hr : sR G i k = j) (hj : 0 < j) (hdg : decode M.2.1 pc = .ok (.getfield idx, 3)) (h : Ev K M d (pc + 3) lv (.ref j :: st) G post) : Ev K M d pc lv (.ref i :: st) G post :=
  E_get hcl hF hci hk h0 hi (fv_ref hk ht hr hj) hdg h
/-- a field is written -/
theorem E_put {idx ci k i : Nat} {v : Value} {G1 : St} (hnx : nx G1 = nx G) (hsu : su G1 = su G) (hag : ∀ j, j ≠ i → Ag G G1 j) (hkd : sK G1 i = ci) (hfv : ∀ j, j < nfOf ci → fv K G1 i j = updV (fv K G i) k (cv K v) j) (hcl : clOK ci) (hF : FL M.1.cls idx ci k false) (hci : ci < 12) (hk : sK G i = ci) (h0 : 0 < i) (hi : i < nx G) (hn : narrow (tyOf ci k) (cv K v) = cv K v) (hfit : fits (tyOf ci k) (cv K v) = true) (hdg : decode M.2.1 pc = .ok (.putfield idx, 3)) (h : Ev K M d (pc + 3) lv st G1 post) : Ev K M d pc lv (v :: .ref i :: st) G post := by
  refine E_goS hnx hsu (fun p e R s m args below meth c H locs cells slots ls Q C F hH hFr hl kk => ?_) h
  obtain ⟨hx, hb, -, -, hown, hts, -, -⟩ := C
  obtain ⟨C, T, N, hc, hin, hty, hnm⟩ := hcl
  obtain ⟨C', T', N', hc', hkN, hlink, hfin, hC⟩ := hF
  cases hc.symm.trans hc'
  have hob := (hH.2.2 i h0 hi).2.2.2.2 (by omega)
  rw [hk, nfOf_eq hc] at hob
  obtain ⟨cell, q1, q2, q3, q4⟩ := hob
  have hap := va_apart (own := M.1.cls) hts hin (tyOf ci) hty hnm F.1 hc
  obtain ⟨hS, hfc, kC, hkC, hkind⟩ := F.1.1 ci _ hc
  obtain ⟨cf, kf, fi, f, hfi, hsl⟩ := hS k hkN
  have hlay := hts _ (hin _ (u_in_lay hkN))
  unfold u_lay at hlay
  rw [if_neg (by rw [hfin]; decide)] at hlay
  have hst := (u_facts hfc hkC (u_lays hts hin hkN) hfi).1
  have h6 := u_store hfc hkC hkind hlay hfi (hty k hkN) hn hfit
  refine W.putK hx hb (f := f) ⟨hown, hts _ hlink, ⟨_, _, _, hfi⟩, hst⟩ (by rw [q2]; exact h6) q1 q3 (by rw [hsl]; exact k2_hasslot (q4 k hkN)) rfl rfl hdg fun H' e1 e2 e3 => ?_
  rw [hsl] at e1 ⊢
  refine kk H' _ (hH.put hnx e2 e3 hag ?_) (hFr.put h0 e3) (locs_put hl h0)
  refine ⟨fun q => absurd q (by omega), fun q => absurd q (by omega), fun q => absurd q (by omega), fun q => absurd q (by omega), fun _ => ?_⟩
  rw [hkd, nfOf_eq hc]
  exact t_OB.to (V := updV (fv K G i) k (cv K v)) ⟨_, e1, q2, q3, t_set q4 hap hkN (cv K v)⟩ (fun j hj => (hfv j (by rw [nfOf_eq hc]; exact hj)).symm)
/-- a final field, in its constructor -/
theorem E_putF {idx ci k i : Nat} {v : Value} {G1 : St} (hnx : nx G1 = nx G) (hsu : su G1 = su G) (hag : ∀ j, j ≠ i → Ag G G1 j) (hkd : sK G1 i = ci) (hfv : ∀ j, j < nfOf ci → fv K G1 i j = updV (fv K G i) k (cv K v) j) (hcl : clOK ci) (hF : FL M.1.cls idx ci k true) (hci : ci < 12) (hcls : ∀ C T N, vwCl[ci]? = some (C, T, N) → C = M.1.cls) (hinit : M.1.name = "<init>") (hk : sK G i = ci) (h0 : 0 < i) (hi : i < nx G) (hn : narrow (tyOf ci k) (cv K v) = cv K v) (hfit : fits (tyOf ci k) (cv K v) = true) (hdg : decode M.2.1 pc = .ok (.putfield idx, 3)) (h : Ev K M d (pc + 3) lv st G1 post) : Ev K M d pc lv (v :: .ref i :: st) G post := by
  refine E_goS hnx hsu (fun p e R s m args below meth c H locs cells slots ls Q C F hH hFr hl kk => ?_) h
  obtain ⟨hx, hb, -, -, hown, hts, -, hname⟩ := C
  obtain ⟨C, T, N, hc, hin, hty, hnm⟩ := hcl
  obtain ⟨C', T', N', hc', hkN, hlink, hfin, hC⟩ := hF
  cases hc.symm.trans hc'
  have hob := (hH.2.2 i h0 hi).2.2.2.2 (by omega)
  rw [hk, nfOf_eq hc] at hob
  obtain ⟨cell, q1, q2, q3, q4⟩ := hob
  have hap := va_apart (own := M.1.cls) hts hin (tyOf ci) hty hnm F.1 hc
  obtain ⟨hS, hfc, kC, hkC, hkind⟩ := F.1.1 ci _ hc
  obtain ⟨cf, kf, fi, f, hfi, hsl⟩ := hS k hkN
  have hlay := hts _ (hin _ (u_in_lay hkN))
  unfold u_lay at hlay
  rw [if_pos hfin] at hlay
  have hst := (u_facts hfc hkC (u_lays hts hin hkN) hfi).1
  have hcf : m.cls = cf := by
    obtain ⟨_, _, c', _, _, _, -, -, hf', -, -, -, hown2, -⟩ := Cond.laysFinal_spec hlay
    have e1 : c' = cf := by have := hfi.symm.trans hf'; simp at this; exact this.1.symm
    rw [hC, hcls _ _ _ hc] at hown2
    rw [← e1]; exact Option.some.inj (hown.symm.trans hown2)
  have h6 := u_fits hfc hkC hkind (Or.inr hlay) hfi (hty k hkN) hn hfit
  refine W.putFinK hx hb hown (hts _ hlink) hfi hst hcf (hname.trans hinit) (by rw [q2]; exact h6) q1 q3 (by rw [hsl]; exact k2_hasslot (q4 k hkN)) rfl rfl hdg fun H' e1 e2 e3 => ?_
  rw [hsl] at e1 ⊢
  refine kk H' _ (hH.put hnx e2 e3 hag ?_) (hFr.put h0 e3) (locs_put hl h0)
  refine ⟨fun q => absurd q (by omega), fun q => absurd q (by omega), fun q => absurd q (by omega), fun q => absurd q (by omega), fun _ => ?_⟩
  rw [hkd, nfOf_eq hc]
  exact t_OB.to (V := updV (fv K G i) k (cv K v)) ⟨_, e1, q2, q3, t_set q4 hap hkN (cv K v)⟩ (fun j hj => (hfv j (by rw [nfOf_eq hc]; exact hj)).symm)
end RULESC

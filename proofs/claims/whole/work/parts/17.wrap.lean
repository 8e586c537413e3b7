/-! the rules as the printed blocks use them -/
def Ob (G : St) (i c : Nat) : Prop := sK G i = c ∧ 0 < i ∧ i < nx G
def Ar (G : St) (i t n : Nat) : Prop := sK G i = 100 + t ∧ 0 < i ∧ i < nx G ∧ sN G i = n
def FG (own : String) (idx ci k : Nat) : Prop := clOK ci ∧ (∃ fin, FL own idx ci k fin) ∧ ci < 12
def FP (own : String) (idx ci k : Nat) : Prop := clOK ci ∧ FL own idx ci k false ∧ ci < 12
def FF (own : String) (idx ci k : Nat) : Prop := clOK ci ∧ FL own idx ci k true ∧ ci < 12 ∧ ∀ C T N, vwCl[ci]? = some (C, T, N) → C = own
theorem lgc_eq (x y : Int64) : lg_cmp x y = 0 ↔ x = y := by
  unfold lg_cmp
  by_cases h : y < x
  · simp only [h, if_true]
    constructor
    · intro q; exact absurd q (by decide)
    · intro q; subst q; exact absurd h Int64.lt_irrefl
  · by_cases h2 : x = y
    · simp [h2]
    · simp [h, h2]
theorem lgc_lt (x y : Int64) : lg_cmp x y < 0 ↔ x < y := by
  unfold lg_cmp
  by_cases h : y < x
  · simp only [h, if_true]
    constructor
    · intro q; exact absurd q (by decide)
    · intro q; exact absurd q (Int64.lt_asymm h)
  · by_cases h2 : x = y
    · subst h2; simp [Int64.lt_irrefl]
    · simp only [h, h2, if_false]
      constructor
      · intro _
        rcases Int64.lt_or_eq_of_le (Int64.not_lt.mp h) with q | q
        · exact q
        · exact absurd q h2
      · intro _; decide
theorem lgc_gt (x y : Int64) : 0 < lg_cmp x y ↔ y < x := by
  unfold lg_cmp
  by_cases h : y < x
  · simp only [h, if_true]; simp
  · by_cases h2 : x = y
    · subst h2; simp [Int64.lt_irrefl]
    · simp only [h, h2, if_false]
      constructor
      · intro q; exact absurd q (by decide)
      · intro q; exact q.elim
abbrev EvI (K : KT) (M : MT) (d pc : Nat) (lv : List (Nat × Value)) (st : List Value) (G : St) (Q : Int32 → St → Prop) : Prop := Ev K M d pc lv st G (fun r G1 => ∃ x, r = some (.int x) ∧ G1.2.2 = G.2.2 ∧ Q x G1)
abbrev EvL (K : KT) (M : MT) (d pc : Nat) (lv : List (Nat × Value)) (st : List Value) (G : St) (Q : Int64 → St → Prop) : Prop := Ev K M d pc lv st G (fun r G1 => ∃ x, r = some (.long x) ∧ G1.2.2 = G.2.2 ∧ Q x G1)
abbrev EvV (K : KT) (M : MT) (d pc : Nat) (lv : List (Nat × Value)) (st : List Value) (G : St) (Q : St → Prop) : Prop := Ev K M d pc lv st G (fun r G1 => r = none ∧ G1.2.2 = G.2.2 ∧ Q G1)
abbrev EvIa (K : KT) (M : MT) (d pc : Nat) (lv : List (Nat × Value)) (st : List Value) (G : St) (Q : Int32 → St → Prop) : Prop := Ev K M d pc lv st G (fun r G1 => ∃ x, r = some (.int x) ∧ Q x G1)
abbrev EvLa (K : KT) (M : MT) (d pc : Nat) (lv : List (Nat × Value)) (st : List Value) (G : St) (Q : Int64 → St → Prop) : Prop := Ev K M d pc lv st G (fun r G1 => ∃ x, r = some (.long x) ∧ Q x G1)
abbrev EvVa (K : KT) (M : MT) (d pc : Nat) (lv : List (Nat × Value)) (st : List Value) (G : St) (Q : St → Prop) : Prop := Ev K M d pc lv st G (fun r G1 => r = none ∧ Q G1)
abbrev EvAa (K : KT) (M : MT) (d pc : Nat) (lv : List (Nat × Value)) (st : List Value) (G : St) (Q : Nat → St → Prop) : Prop := Ev K M d pc lv st G (fun r G1 => ∃ x, r = some (.ref x) ∧ Q x G1)
section WRAP
variable {K : KT} {M : MT} {d pc : Nat} {lv : List (Nat × Value)} {st : List Value} {G G0 : St} {post : Option Value → St → Prop}
theorem EvI.tr {Q : Int32 → St → Prop} (h : EvI K M d pc lv st G Q) (hE : G.2.2 = G0.2.2) : Ev K M d pc lv st G (fun r G1 => ∃ x, r = some (.int x) ∧ G1.2.2 = G0.2.2 ∧ Q x G1) := h.mono (fun _ _ ⟨x, a, b, c⟩ => ⟨x, a, b.trans hE, c⟩)
theorem EvL.tr {Q : Int64 → St → Prop} (h : EvL K M d pc lv st G Q) (hE : G.2.2 = G0.2.2) : Ev K M d pc lv st G (fun r G1 => ∃ x, r = some (.long x) ∧ G1.2.2 = G0.2.2 ∧ Q x G1) := h.mono (fun _ _ ⟨x, a, b, c⟩ => ⟨x, a, b.trans hE, c⟩)
theorem EvV.tr {Q : St → Prop} (h : EvV K M d pc lv st G Q) (hE : G.2.2 = G0.2.2) : Ev K M d pc lv st G (fun r G1 => r = none ∧ G1.2.2 = G0.2.2 ∧ Q G1) := h.mono (fun _ _ ⟨a, b, c⟩ => ⟨a, b.trans hE, c⟩)
theorem E_gI {idx ci k i : Nat} {v : Int32} (hF : FG M.1.cls idx ci k) (ht : isIt (tyOf ci k) = true) (ho : Ob G i ci) (hv : sI G i k = v) (hdg : decode M.2.1 pc = .ok (.getfield idx, 3)) (h : Ev K M d (pc + 3) lv (.int v :: st) G post) : Ev K M d pc lv (.ref i :: st) G post := by
  subst hv
  obtain ⟨f, hf⟩ := hF.2.1
  exact E_getI hF.1 hf hF.2.2 ht ho.1 ho.2.1 ho.2.2 hdg h
theorem E_gL {idx ci k i : Nat} {v : Int64} (hF : FG M.1.cls idx ci k) (ht : tyOf ci k = .long) (ho : Ob G i ci) (hv : sL G i k = v) (hdg : decode M.2.1 pc = .ok (.getfield idx, 3)) (h : Ev K M d (pc + 3) lv (.long v :: st) G post) : Ev K M d pc lv (.ref i :: st) G post := by
  subst hv
  obtain ⟨f, hf⟩ := hF.2.1
  exact E_getL hF.1 hf hF.2.2 ht ho.1 ho.2.1 ho.2.2 hdg h
theorem E_gR {idx ci k i j : Nat} (hF : FG M.1.cls idx ci k) (ht : isRt (tyOf ci k) = true) (ho : Ob G i ci) (hr : sR G i k = j) (hj : 0 < j) (hdg : decode M.2.1 pc = .ok (.getfield idx, 3)) (h : Ev K M d (pc + 3) lv (.ref j :: st) G post) : Ev K M d pc lv (.ref i :: st) G post := by
  obtain ⟨f, hf⟩ := hF.2.1
  exact E_getR hF.1 hf hF.2.2 ht ho.1 ho.2.1 ho.2.2 hr hj hdg h
theorem E_pI {idx ci k i : Nat} {v : Int32} (hF : FP M.1.cls idx ci k) (ht : tyOf ci k = .int) (ho : Ob G i ci) (hdg : decode M.2.1 pc = .ok (.putfield idx, 3)) (h : Ev K M d (pc + 3) lv st (uI G i k v) post) : Ev K M d pc lv (.int v :: .ref i :: st) G post := E_putI hF.1 hF.2.1 hF.2.2 ht ho.1 ho.2.1 ho.2.2 hdg h
theorem E_pZ {idx ci k i : Nat} {v : Int32} (hF : FP M.1.cls idx ci k) (ht : tyOf ci k = .boolean) (ho : Ob G i ci) (hv : v = 0 ∨ v = 1) (hdg : decode M.2.1 pc = .ok (.putfield idx, 3)) (h : Ev K M d (pc + 3) lv st (uI G i k v) post) : Ev K M d pc lv (.int v :: .ref i :: st) G post := E_putZ hF.1 hF.2.1 hF.2.2 ht ho.1 ho.2.1 ho.2.2 hv hdg h
theorem E_pL {idx ci k i : Nat} {v : Int64} (hF : FP M.1.cls idx ci k) (ht : tyOf ci k = .long) (ho : Ob G i ci) (hdg : decode M.2.1 pc = .ok (.putfield idx, 3)) (h : Ev K M d (pc + 3) lv st (uL G i k v) post) : Ev K M d pc lv (.long v :: .ref i :: st) G post := E_putL hF.1 hF.2.1 hF.2.2 ht ho.1 ho.2.1 ho.2.2 hdg h
theorem E_pR {idx ci k i v : Nat} (hF : FP M.1.cls idx ci k) (ht : isRt (tyOf ci k) = true) (ho : Ob G i ci) (hv : 0 < v) (hdg : decode M.2.1 pc = .ok (.putfield idx, 3)) (h : Ev K M d (pc + 3) lv st (uR G i k v) post) : Ev K M d pc lv (.ref v :: .ref i :: st) G post := E_putR hF.1 hF.2.1 hF.2.2 ht ho.1 ho.2.1 ho.2.2 hv hdg h
theorem E_fR {idx ci k i v : Nat} (hF : FF M.1.cls idx ci k) (hinit : M.1.name = "<init>") (ht : isRt (tyOf ci k) = true) (ho : Ob G i ci) (hv : 0 < v) (hdg : decode M.2.1 pc = .ok (.putfield idx, 3)) (h : Ev K M d (pc + 3) lv st (uR G i k v) post) : Ev K M d pc lv (.ref v :: .ref i :: st) G post := E_putFR hF.1 hF.2.1 hF.2.2.1 hF.2.2.2 hinit ht ho.1 ho.2.1 ho.2.2 hv hdg h
theorem E_aI {i n p : Nat} {j v : Int32} (ha : Ar G i 0 n) (hin : vp_in j n) (hp : j.toNatClampNeg = p) (hv : sI G i p = v) (hdg : decode M.2.1 pc = .ok (.iaload, 1)) (h : Ev K M d (pc + 1) lv (.int v :: st) G post) : Ev K M d pc lv (.int j :: .ref i :: st) G post := by
  subst hp; subst hv
  exact E_iald ha.1 ha.2.1 ha.2.2.1 (by rw [ha.2.2.2]; exact hin) hdg h
theorem E_aL {i n p : Nat} {j : Int32} {v : Int64} (ha : Ar G i 1 n) (hin : vp_in j n) (hp : j.toNatClampNeg = p) (hv : sL G i p = v) (hdg : decode M.2.1 pc = .ok (.laload, 1)) (h : Ev K M d (pc + 1) lv (.long v :: st) G post) : Ev K M d pc lv (.int j :: .ref i :: st) G post := by
  subst hp; subst hv
  exact E_lald ha.1 ha.2.1 ha.2.2.1 (by rw [ha.2.2.2]; exact hin) hdg h
theorem E_aB {i n p : Nat} {j v : Int32} (ha : Ar G i 2 n) (hin : vp_in j n) (hp : j.toNatClampNeg = p) (hv : sI G i p = v) (hdg : decode M.2.1 pc = .ok (.baload, 1)) (h : Ev K M d (pc + 1) lv (.int v :: st) G post) : Ev K M d pc lv (.int j :: .ref i :: st) G post := by
  subst hp; subst hv
  exact E_bald ha.1 ha.2.1 ha.2.2.1 (by rw [ha.2.2.2]; exact hin) hdg h
theorem E_aZ {i n p : Nat} {j v : Int32} (ha : Ar G i 3 n) (hin : vp_in j n) (hp : j.toNatClampNeg = p) (hv : sI G i p = v) (hdg : decode M.2.1 pc = .ok (.baload, 1)) (h : Ev K M d (pc + 1) lv (.int v :: st) G post) : Ev K M d pc lv (.int j :: .ref i :: st) G post := by
  subst hp; subst hv
  exact E_zald ha.1 ha.2.1 ha.2.2.1 (by rw [ha.2.2.2]; exact hin) hdg h
theorem E_sI {i n p : Nat} {j x : Int32} (ha : Ar G i 0 n) (hin : vp_in j n) (hp : j.toNatClampNeg = p) (hdg : decode M.2.1 pc = .ok (.iastore, 1)) (h : Ev K M d (pc + 1) lv st (uI G i p x) post) : Ev K M d pc lv (.int x :: .int j :: .ref i :: st) G post := by
  subst hp
  exact E_iast ha.1 ha.2.1 ha.2.2.1 (by rw [ha.2.2.2]; exact hin) hdg h
theorem E_sL {i n p : Nat} {j : Int32} {x : Int64} (ha : Ar G i 1 n) (hin : vp_in j n) (hp : j.toNatClampNeg = p) (hdg : decode M.2.1 pc = .ok (.lastore, 1)) (h : Ev K M d (pc + 1) lv st (uL G i p x) post) : Ev K M d pc lv (.long x :: .int j :: .ref i :: st) G post := by
  subst hp
  exact E_last ha.1 ha.2.1 ha.2.2.1 (by rw [ha.2.2.2]; exact hin) hdg h
theorem E_sB {i n p : Nat} {j x : Int32} (ha : Ar G i 2 n) (hin : vp_in j n) (hp : j.toNatClampNeg = p) (hdg : decode M.2.1 pc = .ok (.bastore, 1)) (h : Ev K M d (pc + 1) lv st (uI G i p (x.toInt8.toInt32)) post) : Ev K M d pc lv (.int x :: .int j :: .ref i :: st) G post := by
  subst hp
  exact E_bast ha.1 ha.2.1 ha.2.2.1 (by rw [ha.2.2.2]; exact hin) hdg h
theorem E_sZ {i n p : Nat} {j x : Int32} (ha : Ar G i 3 n) (hin : vp_in j n) (hx : x = 0 ∨ x = 1) (hp : j.toNatClampNeg = p) (hdg : decode M.2.1 pc = .ok (.bastore, 1)) (h : Ev K M d (pc + 1) lv st (uI G i p x) post) : Ev K M d pc lv (.int x :: .int j :: .ref i :: st) G post := by
  subst hp
  exact E_zast ha.1 ha.2.1 ha.2.2.1 (by rw [ha.2.2.2]; exact hin) hx hdg h
theorem E_len {i t n : Nat} {v : Int32} (ha : Ar G i t n) (ht : t < 4) (hv : nI n = v) (hdg : decode M.2.1 pc = .ok (.arraylength, 1)) (h : Ev K M d (pc + 1) lv (.int v :: st) G post) : Ev K M d pc lv (.ref i :: st) G post := E_alen ha.1 ht ha.2.1 ha.2.2.1 (by rw [ha.2.2.2]; exact hv) hdg h
theorem E_cV {M2 : MT} {d2 idx n i ci : Nat} {as stk : List Value} {post1 : Option Value → St → Prop} (hM : CM M2 n) (hV : CV M.1.cls idx M2) (hcn : ∃ T N, vwCl[ci]? = some (M2.1.cls, T, N)) (hci : ci < 12) (ho : Ob G i ci) (hstk : stk = as.reverse ++ .ref i :: st) (hn : as.length = n) (hd : d2 < d) (hlen : (lg_sl (.ref i :: as)).length ≤ M2.2.2.1) (hroom : (st.map fun v => v.category).sum ≤ 8) (hdg : decode M.2.1 pc = .ok (.invokevirtual idx, 3))
    (hc : Ev K M2 d2 0 (lv_args 0 (.ref i :: as)) [] G post1) (h : ∀ r G1, post1 r G1 → Ev K M d (pc + 3) lv (r.toList ++ st) G1 post) : Ev K M d pc lv stk G post := E_callV hM hV hcn hci ho.1 ho.2.1 ho.2.2 hstk hn hd hlen hroom hdg hc h
end WRAP

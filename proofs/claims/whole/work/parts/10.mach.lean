/-! A FLAT MACHINE: a typed store by the order of making; the class' and the reference's methods run on it (J: a run to its end). Laws of it stand on the kit's rows, once for each instruction. -/
abbrev St : Type := (Nat → Nat → Int32) × (Nat → Nat → Int64) × (Nat → Nat → Nat) × (Nat → Nat) × (Nat → Nat) × Nat × Nat
def sI (G : St) : Nat → Nat → Int32 := G.1
def sL (G : St) : Nat → Nat → Int64 := G.2.1
def sR (G : St) : Nat → Nat → Nat := G.2.2.1
def sN (G : St) : Nat → Nat := G.2.2.2.1
def sK (G : St) : Nat → Nat := G.2.2.2.2.1
def nx (G : St) : Nat := G.2.2.2.2.2.1
def su (G : St) : Nat := G.2.2.2.2.2.2
def uI (G : St) (i k : Nat) (v : Int32) : St := (va_up G.1 i (upd (G.1 i) k v), G.2)
def uL (G : St) (i k : Nat) (v : Int64) : St := (G.1, va_up G.2.1 i (vp_updL (G.2.1 i) k v), G.2.2)
def uR (G : St) (i k : Nat) (v : Nat) : St := (G.1, G.2.1, va_up G.2.2.1 i (va_up (G.2.2.1 i) k v), G.2.2.2)
/-- one thing more: its kind, its length, all zero -/
def uN (G : St) (kd n : Nat) : St := (va_up G.1 (nx G) (fun _ => 0), va_up G.2.1 (nx G) (fun _ => 0), va_up G.2.2.1 (nx G) (fun _ => 0), va_up G.2.2.2.1 (nx G) n, va_up G.2.2.2.2.1 (nx G) kd, nx G + 1, su G + n)
/-- launch, base, class numbers and slots, array classes, POWERS, the script's cell, length, ints -/
abbrev KT : Type := Launch × Nat × va_G × (Nat → ClassId) × Nat × Nat × Nat × (Nat → Int32)
def kb (K : KT) : Nat := K.2.1
def kD (K : KT) : va_G := K.2.2.1
def kA (K : KT) : Nat → ClassId := K.2.2.2.1
def kp (K : KT) : Nat := K.2.2.2.2.1
def ks (K : KT) : Nat := K.2.2.2.2.2.1
def kl (K : KT) : Nat := K.2.2.2.2.2.2.1
def kx (K : KT) : Nat → Int32 := K.2.2.2.2.2.2.2
/-- name, bytes, locals, what it returns -/
abbrev MT : Type := MethodName × ByteArray × Nat × Option FieldType
def cv (K : KT) (v : Value) : Value := match v with
  | .ref i => .ref (kb K + i)
  | .float x => .ref (bif x == 0 then kp K else ks K)
  | v => v
def cp (K : KT) (q : Nat × Value) : Nat × Value := (q.1, cv K q.2)
theorem cv_cat (K : KT) (v : Value) : (cv K v).category = v.category := by cases v <;> rfl
def tyOf : Nat → Nat → FieldType := fun c => match c with
  | 0 => tyX0 | 1 => tyX1 | 2 => tyX2 | 3 => tyX3 | 4 => tyX4 | 5 => tyX5 | 6 => tyX6 | 7 => tyX7 | 8 => tyX8 | 9 => tyX9 | 10 => tyX11 | _ => tyX12
def nfOf (c : Nat) : Nat := match vwCl[c]? with
  | some q => q.2.2
  | none => 0
def fv (K : KT) (G : St) (i k : Nat) : Value := match tyOf (sK G i) k with
  | .long => .long (sL G i k)
  | .object _ => bif sR G i k == 0 then .null else .ref (kb K + sR G i k)
  | .array _ => bif sR G i k == 0 then .null else .ref (kb K + sR G i k)
  | _ => .int (sI G i k)
def tysK (K : KT) : List (ClassId × FieldType) := [(kA K 0, .int), (kA K 1, .long), (kA K 2, .byte), (kA K 3, .boolean)]
/-- thing i lies in the heap as the store has it -/
def Cat (K : KT) (G : St) (H : Heap) (i : Nat) : Prop :=
  (sK G i = 100 → H[kb K + i]? = some (arrV (kA K 0) (sN G i) (fun j => .int (sI G i j)))) ∧
  (sK G i = 101 → H[kb K + i]? = some (arrV (kA K 1) (sN G i) (fun j => .long (sL G i j)))) ∧
  (sK G i = 102 → H[kb K + i]? = some (arrV (kA K 2) (sN G i) (fun j => .int (sI G i j)))) ∧
  (sK G i = 103 → H[kb K + i]? = some (arrV (kA K 3) (sN G i) (fun j => .int (sI G i j)))) ∧
  (sK G i < 12 → t_OB (kb K + i) ((kD K).1 (sK G i)) (nfOf (sK G i)) ((kD K).2 (sK G i)) H (fv K G i))
def Hp (K : KT) (G : St) (H : Heap) : Prop := H.size = kb K + nx G ∧ 0 < nx G ∧ ∀ i, 0 < i → i < nx G → Cat K G H i
def Fr (K : KT) (H0 H : Heap) : Prop := ∀ q, q ≤ kb K → H[q]? = H0[q]?
def pw (j : Nat) : Int64 := lN (27 ^ j)
/-- words that a later state keeps by laws of their own -/
def isNb (w : Cond) : Bool := match w with
  | .methodLinkNest _ _ _ _ => true
  | .castable _ _ => true
  | .declares _ => true
  | _ => false
def Nw (U : State) : Prop := ∀ w ∈ lw_tbl, isNb w = true → va_Nw w U
theorem Nw.warm {s U : State} (hW : s.WarmedH U.vm) (h : Nw s) : Nw U := by
  intro w hw hb
  have h1 := h w hw hb
  cases w <;> first | exact h1.warmM hW | exact h1.warmC hW | exact h1.warmD hW | exact absurd hb (fun q => by cases q)
theorem Nw.same {s U : State} (hv : s.vm = U.vm) (h : Nw s) : Nw U := by
  intro w hw hb
  have h1 := h w hw hb
  cases w <;> first | exact h1.same rfl hv | exact absurd hb (fun q => by cases q)
/-- the statics that a throw reads -/
def Xz (K : KT) (U : State) (H : Heap) : Prop := vx_Zq Bundle.tN "UNASSIGNED_STACK" Bundle.steD (fun q => kb K < q) U H ∧ vx_Zq Bundle.tN "SUPPRESSED_SENTINEL" Bundle.listD (fun q => kb K < q) U H
/-- what lies below, and the tables -/
def Fx (K : KT) (U : State) (H : Heap) : Prop := va_K (kD K) vwCl (tysK K) U ∧ va_Z "WordsAndRows$Words" "POWERS" "[J" (.ref (kp K)) (fun q => kb K < q) U H ∧ (∃ cell : Cell, H[kp K]? = some cell ∧ U.isArrayOf cell .long ∧ cell.vm ≠ .unknown ∧ 9 ≤ cell.slots.size ∧ ∀ j : Nat, j < 9 → cell.slots[j]? = some (.long (pw j))) ∧ kp K ≤ kb K ∧ va_X (ks K) (kl K) (kx K) U H ∧ ks K ≤ kb K ∧ kb K < H.size ∧ Nw U ∧ Xz K U H
def Cx (p : Program) (s : State) (m : MethodId) (args : Array Value) (meth : Method) (c : Code) (M : MT) : Prop :=
  p.tables.exec = Jvm.exec ∧ c.code = M.2.1 ∧ c.maxLocals = M.2.2.1 ∧ meth.sig.returnType = M.2.2.2 ∧ s.vm.findClass M.1.cls = some m.cls ∧ (∀ w ∈ lw_g, w.before args s = true) ∧ meth.locks = false ∧ meth.name = M.1.name
def rk (o : Option Value) : Instr := match o with
  | none => .return_
  | some (.long _) => .lreturn
  | some (.ref _) => .areturn
  | _ => .ireturn
def rtOK (r : Option FieldType) (o : Option Value) : Prop := match o with
  | none => r = none
  | some (.long _) => r = some .long
  | some (.int v) => ∃ ty, r = some ty ∧ narrow ty (.int v) = .int v
  | some (.ref _) => ∃ ty, r = some (.array ty)
  | _ => False
/-- from pc on, with these locals and this stack, in the store G, the method comes to its end with the answer o, in the store G' -/
def J (K : KT) (M : MT) (d pc : Nat) (lv : List (Nat × Value)) (st : List Value) (G : St) (o : Option Value) (G' : St) : Prop :=
  nx G ≤ nx G' ∧ su G ≤ su G' ∧ rtOK M.2.2.2 o ∧
  ∀ (p : Program) (e : Env) (R : Room) (s : State) (m : MethodId) (args : Array Value) (below : List Frame) (meth : Method) (c : Code) (H : Heap) (locs : List Loc) (cells slots : Nat) (ls : Array Slot) (Q : State → Prop),
    Cx p s m args meth c M → Fx K s s.heap → Hp K G H → Fr K s.heap H → (∀ q ∈ locs, kb K < q.base) → lv_has ls M.2.2.1 (lv.map (cp K)) → d ≤ R.frames → 41 * d ≤ R.locals → cells + (nx G' - nx G) ≤ R.cells → slots + (su G' - su G) ≤ R.slots →
    (∀ (pc' : Nat) (ls' : Array Slot) (H' : Heap) (locs' : List Loc), decode M.2.1 pc' = .ok (rk o, 1) → Hp K G' H' → Fr K s.heap H' → (∀ q ∈ locs', kb K < q.base) →
      W p K.1 e R s m args below meth c H' locs' (cells + (nx G' - nx G)) (slots + (su G' - su G)) Q (F0 m pc' ls' (o.toList.map (cv K)))) →
    W p K.1 e R s m args below meth c H locs cells slots Q (F0 m pc ls (st.map (cv K)))
def Ev (K : KT) (M : MT) (d pc : Nat) (lv : List (Nat × Value)) (st : List Value) (G : St) (post : Option Value → St → Prop) : Prop := ∃ o G', J K M d pc lv st G o G' ∧ post o G'
def EvC (K : KT) (M : MT) (d : Nat) (as : List Value) (G : St) (post : Option Value → St → Prop) : Prop := Ev K M d 0 (lv_args 0 as) [] G post
theorem Ev.mono {K : KT} {M : MT} {d pc : Nat} {lv : List (Nat × Value)} {st : List Value} {G : St} {post post' : Option Value → St → Prop} (h : Ev K M d pc lv st G post) (hp : ∀ o G', post o G' → post' o G') : Ev K M d pc lv st G post' := by
  obtain ⟨o, G', h1, h2⟩ := h
  exact ⟨o, G', h1, hp o G' h2⟩
section RULES
variable {K : KT} {M : MT} {d pc : Nat} {lv : List (Nat × Value)} {st : List Value} {G : St} {post : Option Value → St → Prop}
/-- an instruction that touches no cell -/
theorem E_go {pc' : Nat} {lv' : List (Nat × Value)} {st' : List Value} (hw : ∀ (p : Program) (e : Env) (R : Room) (s : State) (m : MethodId) (args : Array Value) (below : List Frame) (meth : Method) (c : Code) (H : Heap) (locs : List Loc) (cells slots : Nat) (ls : Array Slot) (Q : State → Prop), p.tables.exec = Jvm.exec → c.code = M.2.1 → Cx p s m args meth c M → lv_has ls M.2.2.1 (lv.map (cp K)) →
      (∀ ls' : Array Slot, lv_has ls' M.2.2.1 (lv'.map (cp K)) → W p K.1 e R s m args below meth c H locs cells slots Q (F0 m pc' ls' (st'.map (cv K)))) → W p K.1 e R s m args below meth c H locs cells slots Q (F0 m pc ls (st.map (cv K)))) (h : Ev K M d pc' lv' st' G post) : Ev K M d pc lv st G post := by
  obtain ⟨o, G', ⟨h1, h2, h3, h4⟩, hp⟩ := h
  refine ⟨o, G', ⟨h1, h2, h3, ?_⟩, hp⟩
  intro p e R s m args below meth c H locs cells slots ls Q C F hH hF hl hlv hd1 hd2 hc hs k
  exact hw p e R s m args below meth c H locs cells slots ls Q C.1 C.2.1 C hlv (fun ls' hlv' => h4 p e R s m args below meth c H locs cells slots ls' Q C F hH hF hl hlv' hd1 hd2 hc hs k)
/-- the same, the locals as they are -/
theorem E_go1 {pc' : Nat} {st' : List Value} (hw : ∀ (p : Program) (e : Env) (R : Room) (s : State) (m : MethodId) (args : Array Value) (below : List Frame) (meth : Method) (c : Code) (H : Heap) (locs : List Loc) (cells slots : Nat) (ls : Array Slot) (Q : State → Prop), p.tables.exec = Jvm.exec → c.code = M.2.1 → Cx p s m args meth c M → lv_has ls M.2.2.1 (lv.map (cp K)) →
      W p K.1 e R s m args below meth c H locs cells slots Q (F0 m pc' ls (st'.map (cv K))) → W p K.1 e R s m args below meth c H locs cells slots Q (F0 m pc ls (st.map (cv K)))) (h : Ev K M d pc' lv st' G post) : Ev K M d pc lv st G post :=
  E_go (fun p e R s m args below meth c H locs cells slots ls Q hx hb C hlv k => hw p e R s m args below meth c H locs cells slots ls Q hx hb C hlv (k ls hlv)) h
theorem E_iconst {n : Int} {v : Int32} (hdg : decode M.2.1 pc = .ok (.iconst n, 1)) (hv : Int32.ofInt n = v) (h : Ev K M d (pc + 1) lv (.int v :: st) G post) : Ev K M d pc lv st G post :=
  E_go1 (fun _ _ _ _ _ _ _ _ _ _ _ _ _ _ _ hx hb _ _ k => lv_iconst hx hb hdg hv k) h
theorem E_bipush {n : Int} {v : Int32} (hdg : decode M.2.1 pc = .ok (.bipush n, 2)) (hv : (Int8.ofInt n).toInt32 = v) (h : Ev K M d (pc + 2) lv (.int v :: st) G post) : Ev K M d pc lv st G post :=
  E_go1 (fun _ _ _ _ _ _ _ _ _ _ _ _ _ _ _ hx hb _ _ k => lv_bipush hx hb hdg hv k) h
theorem E_sipush {n : Int} {v : Int32} (hdg : decode M.2.1 pc = .ok (.sipush n, 3)) (hv : (Int16.ofInt n).toInt32 = v) (h : Ev K M d (pc + 3) lv (.int v :: st) G post) : Ev K M d pc lv st G post :=
  E_go1 (fun _ _ _ _ _ _ _ _ _ _ _ _ _ _ _ hx hb _ _ k => lv_sipush hx hb hdg hv k) h
theorem E_lconst {n : Fin 2} {v : Int64} (hdg : decode M.2.1 pc = .ok (.lconst n, 1)) (hv : Int64.ofNat (n : Nat) = v) (h : Ev K M d (pc + 1) lv (.long v :: st) G post) : Ev K M d pc lv st G post :=
  E_go1 (fun _ _ _ _ _ _ _ _ _ _ _ _ _ _ _ hx hb _ _ k => lv_lconst hx hb hdg hv k) h
theorem E_ldc {index : Nat} {v : Int32} (hc : Cond.constant M.1.cls index v ∈ lw_g) (hdg : decode M.2.1 pc = .ok (.ldc index, 2)) (h : Ev K M d (pc + 2) lv (.int v :: st) G post) : Ev K M d pc lv st G post :=
  E_go1 (fun _ _ _ _ _ _ _ _ _ _ _ _ _ _ _ hx hb C _ k => lv_ldc hx hb C.2.2.2.2.1 (C.2.2.2.2.2.1 _ hc) hdg k) h
theorem E_ldcw {index : Nat} {v : Int32} (hc : Cond.constant M.1.cls index v ∈ lw_g) (hdg : decode M.2.1 pc = .ok (.ldc_w index, 3)) (h : Ev K M d (pc + 3) lv (.int v :: st) G post) : Ev K M d pc lv st G post :=
  E_go1 (fun _ _ _ _ _ _ _ _ _ _ _ _ _ _ _ hx hb C _ k => lv_ldcw hx hb C.2.2.2.2.1 (C.2.2.2.2.2.1 _ hc) hdg k) h
theorem E_ldc2 {index : Nat} {v : Int64} (hc : Cond.constantLong M.1.cls index v ∈ lw_g) (hdg : decode M.2.1 pc = .ok (.ldc2_w index, 3)) (h : Ev K M d (pc + 3) lv (.long v :: st) G post) : Ev K M d pc lv st G post :=
  E_go1 (fun _ _ _ _ _ _ _ _ _ _ _ _ _ _ _ hx hb C _ k => lv_ldc2 hx hb C.2.2.2.2.1 (C.2.2.2.2.2.1 _ hc) hdg k) h
theorem lv_atc {ls : Array Slot} {nL i : Nat} {v : Value} (h : lv_has ls nL (lv.map (cp K))) (j : Nat) (hj : lv[j]? = some (i, v)) : ls[i]? = some (.val (cv K v)) := lv_at h j (by rw [List.getElem?_map, hj]; rfl)
theorem E_iload_n {k : Fin 4} {i : Nat} {x : Int32} (j : Nat) (hdg : decode M.2.1 pc = .ok (.iload_n k, 1)) (hi : (k : Nat) = i) (hj : lv[j]? = some (i, .int x)) (h : Ev K M d (pc + 1) lv (.int x :: st) G post) : Ev K M d pc lv st G post :=
  E_go1 (fun _ _ _ _ _ _ _ _ _ _ _ _ _ _ _ hx hb _ hlv k => lv_iload_n hx hb hdg hi (lv_atc hlv j hj) k) h
theorem E_iload {i : Nat} {x : Int32} (j : Nat) (hdg : decode M.2.1 pc = .ok (.iload i, 2)) (hj : lv[j]? = some (i, .int x)) (h : Ev K M d (pc + 2) lv (.int x :: st) G post) : Ev K M d pc lv st G post :=
  E_go1 (fun _ _ _ _ _ _ _ _ _ _ _ _ _ _ _ hx hb _ hlv k => lv_iload hx hb hdg (lv_atc hlv j hj) k) h
theorem E_lload_n {k : Fin 4} {i : Nat} {x : Int64} (j : Nat) (hdg : decode M.2.1 pc = .ok (.lload_n k, 1)) (hi : (k : Nat) = i) (hj : lv[j]? = some (i, .long x)) (h : Ev K M d (pc + 1) lv (.long x :: st) G post) : Ev K M d pc lv st G post :=
  E_go1 (fun _ _ _ _ _ _ _ _ _ _ _ _ _ _ _ hx hb _ hlv k => lv_lload_n hx hb hdg hi (lv_atc hlv j hj) k) h
theorem E_lload {i : Nat} {x : Int64} (j : Nat) (hdg : decode M.2.1 pc = .ok (.lload i, 2)) (hj : lv[j]? = some (i, .long x)) (h : Ev K M d (pc + 2) lv (.long x :: st) G post) : Ev K M d pc lv st G post :=
  E_go1 (fun _ _ _ _ _ _ _ _ _ _ _ _ _ _ _ hx hb _ hlv k => lv_lload hx hb hdg (lv_atc hlv j hj) k) h
end RULES

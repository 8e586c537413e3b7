/-! numbers: from Int32 to Nat by simp -/
theorem nLe {a b : Nat} (ha : a < 2147483648) (hb : b < 2147483648) : nI a ≤ nI b ↔ a ≤ b := by rw [fa_le, nI_toInt ha, nI_toInt hb]; omega
theorem nLt {a b : Nat} (ha : a < 2147483648) (hb : b < 2147483648) : nI a < nI b ↔ a < b := by rw [fa_lt, nI_toInt ha, nI_toInt hb]; omega
theorem nEq {a b : Nat} (ha : a < 2147483648) (hb : b < 2147483648) : nI a = nI b ↔ a = b := by rw [fa_eq, nI_toInt ha, nI_toInt hb]; omega
theorem nLeR {a b : Nat} (ha : a < 2147483648) (hb : OfNat.ofNat b < 2147483648) : nI a ≤ (no_index (OfNat.ofNat b : Int32)) ↔ a ≤ OfNat.ofNat b := nLe ha hb
theorem nLeL {a b : Nat} (ha : OfNat.ofNat a < 2147483648) (hb : b < 2147483648) : (no_index (OfNat.ofNat a : Int32)) ≤ nI b ↔ OfNat.ofNat a ≤ b := nLe ha hb
theorem nLtR {a b : Nat} (ha : a < 2147483648) (hb : OfNat.ofNat b < 2147483648) : nI a < (no_index (OfNat.ofNat b : Int32)) ↔ a < OfNat.ofNat b := nLt ha hb
theorem nLtL {a b : Nat} (ha : OfNat.ofNat a < 2147483648) (hb : b < 2147483648) : (no_index (OfNat.ofNat a : Int32)) < nI b ↔ OfNat.ofNat a < b := nLt ha hb
theorem nEqR {a b : Nat} (ha : a < 2147483648) (hb : OfNat.ofNat b < 2147483648) : nI a = (no_index (OfNat.ofNat b : Int32)) ↔ a = OfNat.ofNat b := nEq ha hb
theorem nEqL {a b : Nat} (ha : OfNat.ofNat a < 2147483648) (hb : b < 2147483648) : (no_index (OfNat.ofNat a : Int32)) = nI b ↔ OfNat.ofNat a = b := nEq ha hb
theorem nClamp {a : Nat} (ha : a < 2147483648) : (nI a).toNatClampNeg = a := nI_clamp ha
theorem nClampR {a : Nat} (ha : OfNat.ofNat a < 2147483648) : (no_index (OfNat.ofNat a : Int32)).toNatClampNeg = OfNat.ofNat a := nI_clamp ha
theorem nAdd {a b : Nat} : nI a + nI b = nI (a + b) := nI_add a b
theorem nAddR {a b : Nat} : nI a + (no_index (OfNat.ofNat b : Int32)) = nI (a + OfNat.ofNat b) := nI_add a b
theorem nAddL {a b : Nat} : (no_index (OfNat.ofNat a : Int32)) + nI b = nI (OfNat.ofNat a + b) := nI_add a b
theorem nSub {a b : Nat} (h : b ≤ a) : nI a - nI b = nI (a - b) := pk_sub h
theorem nSubR {a b : Nat} (h : OfNat.ofNat b ≤ a) : nI a - (no_index (OfNat.ofNat b : Int32)) = nI (a - OfNat.ofNat b) := pk_sub h
theorem nMul {a b : Nat} : nI a * nI b = nI (a * b) := pk_mul a b
theorem nMulR {a b : Nat} : nI a * (no_index (OfNat.ofNat b : Int32)) = nI (a * OfNat.ofNat b) := pk_mul a b
theorem nMulL {a b : Nat} : (no_index (OfNat.ofNat a : Int32)) * nI b = nI (OfNat.ofNat a * b) := pk_mul a b
theorem nDivR {a b : Nat} (ha : a < 2147483648) (hb : OfNat.ofNat b < 2147483648) (h0 : 0 < (OfNat.ofNat b : Nat)) : nI a / (no_index (OfNat.ofNat b : Int32)) = nI (a / OfNat.ofNat b) := pk_div ha h0 hb
theorem vIn {a n : Nat} (ha : a < 2147483648) : vp_in (nI a) n ↔ a < n := by
  unfold vp_in
  rw [nI_clamp ha, fa_lt, nI_toInt ha, show (0 : Int32).toInt = 0 from rfl]; omega
theorem vInR {a n : Nat} (ha : OfNat.ofNat a < 2147483648) : vp_in (no_index (OfNat.ofNat a : Int32)) n ↔ OfNat.ofNat a < n := vIn ha
theorem iteZ {c : Prop} [Decidable c] : ((if c then (1 : Int32) else 0) = 0) ↔ ¬ c := by by_cases h : c <;> simp [h]
theorem iteP {c : Prop} [Decidable c] : ((if c then (1 : Int32) else 0) = 1) ↔ c := by by_cases h : c <;> simp [h]
theorem lEq {a b : Nat} (ha : a < 9223372036854775808) (hb : b < 9223372036854775808) : lN a = lN b ↔ a = b := fb_lN_inj ha hb
theorem lEqR {a b : Nat} (ha : a < 9223372036854775808) (hb : OfNat.ofNat b < 9223372036854775808) : lN a = (no_index (OfNat.ofNat b : Int64)) ↔ a = OfNat.ofNat b := fb_lN_inj ha hb
/-- nothing outside S is written, slot by slot -/
def Kq (S : Nat → Nat → Prop) (G G' : St) : Prop := G'.2.2 = G.2.2 ∧ ∀ i k, ¬ S i k → sI G' i k = sI G i k ∧ sL G' i k = sL G i k
theorem Kq.rf {S : Nat → Nat → Prop} {G : St} : Kq S G G := ⟨rfl, fun _ _ _ => ⟨rfl, rfl⟩⟩
theorem Kq.tr {S : Nat → Nat → Prop} {G G1 G2 : St} (h : Kq S G G1) (h2 : Kq S G1 G2) : Kq S G G2 := ⟨h2.1.trans h.1, fun i k hi => ⟨(h2.2 i k hi).1.trans (h.2 i k hi).1, (h2.2 i k hi).2.trans (h.2 i k hi).2⟩⟩
theorem Kq.mono {S S' : Nat → Nat → Prop} {G G1 : St} (h : Kq S G G1) (hs : ∀ i k, S i k → S' i k) : Kq S' G G1 := ⟨h.1, fun i k hi => h.2 i k (fun q => hi (hs i k q))⟩
theorem Kq.lay {S : Nat → Nat → Prop} {G G1 : St} (h : Kq S G G1) (hL : Lay G.2.2) : Lay G1.2.2 := by rw [h.1]; exact hL
theorem Kq.I {S : Nat → Nat → Prop} {G G1 : St} (h : Kq S G G1) {i k : Nat} (hi : ¬ S i k) : sI G1 i k = sI G i k := (h.2 i k hi).1
theorem Kq.L {S : Nat → Nat → Prop} {G G1 : St} (h : Kq S G G1) {i k : Nat} (hi : ¬ S i k) : sL G1 i k = sL G i k := (h.2 i k hi).2
theorem Kq.R {S : Nat → Nat → Prop} {G G1 : St} (h : Kq S G G1) (i k : Nat) : sR G1 i k = sR G i k := by show G1.2.2.1 i k = G.2.2.1 i k; rw [h.1]
theorem Kp.q {S : Nat → Prop} {G G1 : St} (h : Kp S G G1) : Kq (fun i _ => S i) G G1 := ⟨h.1, fun i k hi => ⟨by rw [(h.2 i hi).1], by rw [(h.2 i hi).2]⟩⟩
theorem kq_I {S : Nat → Nat → Prop} {G : St} {a k : Nat} {v : Int32} (h : S a k) : Kq S G (uI G a k v) := ⟨rfl, fun i j hi => ⟨by rw [gI, if_neg (fun q => hi (by rw [q.1, q.2]; exact h))], rfl⟩⟩
theorem kq_L {S : Nat → Nat → Prop} {G : St} {a k : Nat} {v : Int64} (h : S a k) : Kq S G (uL G a k v) := ⟨rfl, fun i j hi => ⟨rfl, by rw [gL, if_neg (fun q => hi (by rw [q.1, q.2]; exact h))]⟩⟩
theorem Kq.sI {S : Nat → Nat → Prop} {G G1 : St} (hk : Kq S G G1) {a k : Nat} {v : Int32} (h : S a k) : Kq S G (uI G1 a k v) := hk.tr (kq_I h)
theorem Kq.sL {S : Nat → Nat → Prop} {G G1 : St} (hk : Kq S G G1) {a k : Nat} {v : Int64} (h : S a k) : Kq S G (uL G1 a k v) := hk.tr (kq_L h)

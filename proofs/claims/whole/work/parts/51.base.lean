/-! LEVEL 2: first facts -/
/-- nothing outside S is written, the layout stays -/
def Kp (S : Nat → Prop) (G G' : St) : Prop := G'.2.2 = G.2.2 ∧ ∀ i, ¬ S i → sI G' i = sI G i ∧ sL G' i = sL G i
theorem Kp.rf {S : Nat → Prop} {G : St} : Kp S G G := ⟨rfl, fun _ _ => ⟨rfl, rfl⟩⟩
theorem Kp.tr {S : Nat → Prop} {G G1 G2 : St} (h : Kp S G G1) (h2 : Kp S G1 G2) : Kp S G G2 := ⟨h2.1.trans h.1, fun i hi => ⟨(h2.2 i hi).1.trans (h.2 i hi).1, (h2.2 i hi).2.trans (h.2 i hi).2⟩⟩
theorem Kp.mono {S S' : Nat → Prop} {G G1 : St} (h : Kp S G G1) (hs : ∀ i, S i → S' i) : Kp S' G G1 := ⟨h.1, fun i hi => h.2 i (fun q => hi (hs i q))⟩
theorem Kp.lay {S : Nat → Prop} {G G1 : St} (h : Kp S G G1) (hL : Lay G.2.2) : Lay G1.2.2 := by rw [h.1]; exact hL
theorem Kp.I {S : Nat → Prop} {G G1 : St} (h : Kp S G G1) {i : Nat} (hi : ¬ S i) (k : Nat) : sI G1 i k = sI G i k := by rw [(h.2 i hi).1]
theorem Kp.L {S : Nat → Prop} {G G1 : St} (h : Kp S G G1) {i : Nat} (hi : ¬ S i) (k : Nat) : sL G1 i k = sL G i k := by rw [(h.2 i hi).2]
theorem Kp.R {S : Nat → Prop} {G G1 : St} (h : Kp S G G1) (i k : Nat) : sR G1 i k = sR G i k := by show G1.2.2.1 i k = G.2.2.1 i k; rw [h.1]
theorem kp_uI {S : Nat → Prop} {G : St} {a k : Nat} {v : Int32} (h : S a) : Kp S G (uI G a k v) := ⟨rfl, fun i hi => ⟨up_ne _ _ (fun q => hi (q ▸ h)), rfl⟩⟩
theorem kp_uL {S : Nat → Prop} {G : St} {a k : Nat} {v : Int64} (h : S a) : Kp S G (uL G a k v) := ⟨rfl, fun i hi => ⟨rfl, up_ne _ _ (fun q => hi (q ▸ h))⟩⟩
theorem gI (G : St) (a k i j : Nat) (v : Int32) : sI (uI G a k v) i j = if i = a ∧ j = k then v else sI G i j := by
  by_cases h : i = a
  · subst h
    rw [sI_uI, upd]
    by_cases h2 : j = k <;> simp [h2]
  · rw [show sI (uI G a k v) i = sI G i from up_ne _ _ h]
    simp [h]
theorem gL (G : St) (a k i j : Nat) (v : Int64) : sL (uL G a k v) i j = if i = a ∧ j = k then v else sL G i j := by
  by_cases h : i = a
  · subst h
    rw [sL_uL, vp_updL]
    by_cases h2 : j = k <;> simp [h2]
  · rw [show sL (uL G a k v) i = sL G i from up_ne _ _ h]
    simp [h]
theorem gIL (G : St) (a k i j : Nat) (v : Int64) : sI (uL G a k v) i j = sI G i j := rfl
theorem gLI (G : St) (a k i j : Nat) (v : Int32) : sL (uI G a k v) i j = sL G i j := rfl
/-- the byte of v from bit s on -/
def byt (v : Int64) (s : Nat) : Nat := v.toBitVec.toNat / 2 ^ s % 256
theorem byt_lt (v : Int64) (s : Nat) : byt v s < 256 := Nat.mod_lt _ (by decide)
theorem by_X (v : Int64) {s : Nat} (hs : s < 64) : Int64.toInt32 (((v.toUInt64 >>> ((Int32.toInt64 (nI s)).toUInt64 &&& Int64.toUInt64 63)).toInt64) &&& 255) = nI (byt v s) := by
  obtain ⟨n, hn, rfl⟩ := wb_of v
  rw [wb_shr hn hs, show (255 : Int64) = lN (2 ^ 8 - 1) from rfl, wb_mask (Nat.lt_of_le_of_lt (Nat.div_le_self _ _) hn) (by decide), lN_i, byt, wb_tn hn]
theorem by_M (v : Int64) {s : Nat} (hs : s ≤ 56) : (Int64.toInt32 (v >>> (Int32.toInt64 (nI s) &&& 63))) &&& 255 = nI (byt v s) := by
  rw [pk_and _ (m := 255) 8 (by decide), wb_c s (by omega)]
  congr 1
  have h1 : (Int64.toInt32 (v >>> lN s)).toBitVec.toNat % 2 ^ 8 = (v >>> lN s).toBitVec.toNat % 2 ^ 8 := by
    show ((v >>> lN s).toBitVec.signExtend 32).toNat % 2 ^ 8 = _
    rw [BitVec.signExtend_eq_setWidth_of_le _ (by decide), BitVec.toNat_setWidth]
    exact Nat.mod_mod_of_dvd _ (by decide)
  rw [h1]
  have h2 : (v >>> lN s).toBitVec = v.toBitVec.sshiftRight s := by
    show v.toBitVec.sshiftRight' ((lN s).toBitVec.smod 64) = _
    rw [wb_tb, wb_sm s (by omega), BitVec.sshiftRight', BitVec.toNat_ofNat, Nat.mod_eq_of_lt (by omega)]
  rw [h2, byt]
  apply Nat.eq_of_testBit_eq
  intro i
  rw [show (256 : Nat) = 2 ^ 8 from rfl, Nat.testBit_mod_two_pow, Nat.testBit_mod_two_pow, Nat.testBit_div_two_pow, BitVec.testBit_toNat, BitVec.testBit_toNat, BitVec.getLsbD_sshiftRight]
  by_cases hi : i < 8
  · have e1 : decide (64 ≤ i) = false := by simp; omega
    have e2 : s + i < 64 := by omega
    rw [e1, if_pos e2, Nat.add_comm i s]
    simp
  · simp [hi]

/-! bitCount -/
def dsum (m : Nat) (e : Nat → Nat) : Nat → Nat
  | 0 => 0
  | n + 1 => dsum m e n + e n * 2 ^ (m * n)
theorem dsum_lt {m : Nat} {e : Nat → Nat} (h : ∀ j, e j < 2 ^ m) : ∀ n, dsum m e n < 2 ^ (m * n)
  | 0 => by simp [dsum]
  | n + 1 => by
    have ih := dsum_lt h n
    have h1 : e n * 2 ^ (m * n) ≤ (2 ^ m - 1) * 2 ^ (m * n) := Nat.mul_le_mul_right _ (by have := h n; omega)
    have h2 : 2 ^ (m * (n + 1)) = (2 ^ m - 1) * 2 ^ (m * n) + 2 ^ (m * n) := by
      rw [Nat.mul_add, Nat.mul_one, Nat.pow_add, Nat.mul_comm (2 ^ (m * n))]
      conv => lhs; rw [show 2 ^ m = (2 ^ m - 1) + 1 by have := Nat.one_le_two_pow (n := m); omega]
      rw [Nat.add_mul, Nat.one_mul]
    rw [dsum]; omega
theorem dsum_bit {m : Nat} {e : Nat → Nat} (hm : 0 < m) (h : ∀ j, e j < 2 ^ m) : ∀ n i, (dsum m e n).testBit i = (decide (i < m * n) && (e (i / m)).testBit (i % m))
  | 0, i => by simp [dsum]
  | n + 1, i => by
    have ih := dsum_bit hm h n
    have hl := dsum_lt h n
    rw [dsum, Nat.add_comm, Nat.mul_comm (e n)]
    rw [Nat.testBit_two_pow_mul_add _ hl]
    by_cases q : i < m * n
    · rw [if_pos q, ih]
      have : i < m * (n + 1) := by rw [Nat.mul_add]; omega
      simp [q, this]
    · rw [if_neg q]
      by_cases q2 : i < m * (n + 1)
      · have e1 : i / m = n := by
          rw [Nat.mul_add, Nat.mul_one] at q2
          have h1 : n ≤ i / m := (Nat.le_div_iff_mul_le hm).mpr (by rw [Nat.mul_comm]; omega)
          have h2 : i / m < n + 1 := (Nat.div_lt_iff_lt_mul hm).mpr (by rw [Nat.add_mul, Nat.mul_comm]; omega)
          omega
        have e2 : i % m = i - m * n := by
          have := Nat.div_add_mod i m
          rw [e1] at this; omega
        rw [e1, e2]
        simp [q2]
      · have hb : (e n).testBit (i - m * n) = false := by
          refine Nat.testBit_lt_two_pow (Nat.lt_of_lt_of_le (h n) (Nat.pow_le_pow_right (by decide) ?_))
          rw [Nat.mul_add] at q2; omega
        rw [hb]
        simp [q2]
theorem dsum_add (m : Nat) (e f : Nat → Nat) : ∀ n, dsum m e n + dsum m f n = dsum m (fun j => e j + f j) n
  | 0 => rfl
  | n + 1 => by
    have := dsum_add m e f n
    rw [dsum, dsum, dsum, ← this, Nat.add_mul]; omega
theorem dsum_cong {m : Nat} {e f : Nat → Nat} : ∀ {n : Nat}, (∀ j, j < n → e j = f j) → dsum m e n = dsum m f n
  | 0, _ => rfl
  | n + 1, h => by rw [dsum, dsum, dsum_cong (fun j hj => h j (by omega)), h n (by omega)]
/-- two fields as one -/
theorem dsum_two (m : Nat) (e : Nat → Nat) : ∀ n, dsum m e (2 * n) = dsum (2 * m) (fun k => e (2 * k) + e (2 * k + 1) * 2 ^ m) n
  | 0 => rfl
  | n + 1 => by
    have := dsum_two m e n
    rw [show 2 * (n + 1) = 2 * n + 1 + 1 by omega, dsum, dsum, this, dsum]
    have e1 : m * (2 * n) = 2 * m * n := by rw [← Nat.mul_assoc, Nat.mul_comm m 2]
    have e2 : 2 ^ (m * (2 * n + 1)) = 2 ^ m * 2 ^ (2 * m * n) := by rw [Nat.mul_add, Nat.mul_one, e1, Nat.pow_add, Nat.mul_comm]
    rw [e1, e2, Nat.add_mul, Nat.add_assoc, ← Nat.mul_assoc (e (2 * n + 1))]
theorem dsum_shr {m : Nat} {e : Nat → Nat} (h : ∀ j, e j < 2 ^ m) : ∀ n, dsum m e (n + 1) / 2 ^ m = dsum m (fun j => e (j + 1)) n
  | 0 => by
    show (0 + e 0 * 2 ^ (m * 0)) / 2 ^ m = 0
    rw [Nat.mul_zero, Nat.pow_zero, Nat.mul_one, Nat.zero_add]
    exact Nat.div_eq_of_lt (h 0)
  | n + 1 => by
    have ih := dsum_shr h n
    have e1 : e (n + 1) * 2 ^ (m * (n + 1)) = 2 ^ m * (e (n + 1) * 2 ^ (m * n)) := by rw [Nat.mul_add, Nat.mul_one, Nat.pow_add]; simp [Nat.mul_comm, Nat.mul_left_comm]
    show (dsum m e (n + 1) + e (n + 1) * 2 ^ (m * (n + 1))) / 2 ^ m = dsum m (fun j => e (j + 1)) n + e (n + 1) * 2 ^ (m * n)
    rw [e1, Nat.add_comm, Nat.mul_add_div (Nat.two_pow_pos m), ih, Nat.add_comm]
theorem dsum_last {m : Nat} {e : Nat → Nat} {n : Nat} (h : e n = 0) : dsum m e (n + 1) = dsum m e n := by rw [dsum, h, Nat.zero_mul, Nat.add_zero]
theorem dsum_mask {m n M : Nat} {e : Nat → Nat} (hm : 0 < m) (h : ∀ j, e j < 2 ^ m) (hM : ∀ i, i < m * n → M.testBit i = decide (i / m % 2 = 0)) : dsum m e n &&& M = dsum m (fun j => if j % 2 = 0 then e j else 0) n := by
  apply Nat.eq_of_testBit_eq
  intro i
  have h' : ∀ j, (fun j => if j % 2 = 0 then e j else 0) j < 2 ^ m := by
    intro j
    simp only []
    split
    · exact h j
    · exact Nat.two_pow_pos m
  rw [Nat.testBit_and, dsum_bit hm h, dsum_bit hm h']
  by_cases q : i < m * n
  · rw [hM i q]
    by_cases q2 : i / m % 2 = 0 <;> simp [q, q2]
  · simp [q]
theorem dsum_bits {s : Nat} (hs : s < 2 ^ 32) : s = dsum 1 (fun i => if s.testBit i then 1 else 0) 32 := by
  have h : ∀ j, (fun i => if s.testBit i then 1 else 0) j < 2 ^ 1 := by intro j; simp only []; split <;> decide
  apply Nat.eq_of_testBit_eq
  intro i
  rw [dsum_bit (by decide) h]
  by_cases q : i < 32
  · simp [q, Nat.mod_one]
    cases s.testBit i <;> simp
  · rw [Nat.testBit_lt_two_pow (Nat.lt_of_lt_of_le hs (Nat.pow_le_pow_right (by decide) (by omega)))]
    simp; omega
theorem ushI {s k : Nat} (hs : s < 2 ^ 32) (y : UInt32) (hy : y.toNat % 32 = k) : ((nI s).toUInt32 >>> y).toInt32 = nI (s / 2 ^ k) := by
  apply Int32.toBitVec_inj.mp
  show ((nI s).toUInt32 >>> y).toBitVec = BitVec.ofNat 32 (s / 2 ^ k)
  rw [UInt32.toBitVec_shiftRight]
  apply BitVec.eq_of_toNat_eq
  have e1 : (nI s).toUInt32.toBitVec.toNat = s := by
    show (BitVec.ofNat 32 s).toNat = s
    rw [BitVec.toNat_ofNat, Nat.mod_eq_of_lt hs]
  have e2 : (y.toBitVec % 32).toNat = k := by
    rw [BitVec.toNat_umod]
    exact hy
  rw [BitVec.ushiftRight_eq', BitVec.toNat_ushiftRight, e1, e2, Nat.shiftRight_eq_div_pow, BitVec.toNat_ofNat, Nat.mod_eq_of_lt (Nat.lt_of_le_of_lt (Nat.div_le_self _ _) hs)]
theorem mk5 : ∀ i, i < 1 * 32 → (1431655765 : Nat).testBit i = decide (i / 1 % 2 = 0) := by decide +kernel
theorem mk3 : ∀ i, i < 2 * 16 → (858993459 : Nat).testBit i = decide (i / 2 % 2 = 0) := by decide +kernel
theorem mkf : ∀ i, i < 4 * 8 → (252645135 : Nat).testBit i = decide (i / 4 % 2 = 0) := by decide +kernel
/-- 32, but nothing unfolds by it -/
noncomputable def w32 : Nat := Classical.epsilon (fun n => n = 32)
theorem w32_eq : w32 = 32 := Classical.epsilon_spec (p := fun n => n = 32) ⟨32, rfl⟩
/-- how many bits -/
noncomputable def pc (s : Nat) : Nat := fb_ct (fun i => s.testBit i) w32
theorem pc_def (s : Nat) : pc s = fb_ct (fun i => s.testBit i) 32 := by unfold pc; rw [w32_eq]
theorem bitCount_eq {s : Nat} (hs : s < 2 ^ 32) :
    ∀ v1 : Int32, v1 = (nI s - ((((nI s).toUInt32 >>> (Int32.toUInt32 1 &&& Int32.toUInt32 31)).toInt32) &&& 1431655765)) &&& 858993459 → ∀ v2 : Int32, v2 = ((nI s - ((((nI s).toUInt32 >>> (Int32.toUInt32 1 &&& Int32.toUInt32 31)).toInt32) &&& 1431655765)).toUInt32 >>> (Int32.toUInt32 2 &&& Int32.toUInt32 31)).toInt32 → ∀ v3 : Int32, v3 = (v1 + (v2 &&& 858993459)) + (((v1 + (v2 &&& 858993459)).toUInt32 >>> (Int32.toUInt32 4 &&& Int32.toUInt32 31)).toInt32) → ∀ v4 : Int32, v4 = (v3 &&& 252645135) + (((v3 &&& 252645135).toUInt32 >>> (Int32.toUInt32 8 &&& Int32.toUInt32 31)).toInt32) → (v4 + ((v4.toUInt32 >>> (Int32.toUInt32 16 &&& Int32.toUInt32 31)).toInt32)) &&& 63 = nI (pc s) := by
  intro v1 h1 v2 h2 v3 h3 v4 h4
  have hb := dsum_bits hs
  generalize hB : (fun i => if s.testBit i then 1 else 0) = B at hb
  have hB1 : ∀ j, B j ≤ 1 := by intro j; rw [← hB]; simp only []; split <;> decide
  have l1 : ∀ j, B j < 2 ^ 1 := fun j => by have := hB1 j; omega
  have hB32 : B 32 = 0 := by
    rw [← hB]
    simp only []
    rw [Nat.testBit_lt_two_pow hs]; rfl
  -- step 1
  have t1 : s / 2 ^ 1 &&& 1431655765 = dsum 2 (fun k => B (2 * k + 1)) 16 := by
    have e : s / 2 ^ 1 = dsum 1 (fun j => B (j + 1)) 32 := by
      rw [hb]
      exact (dsum_shr l1 31).trans (dsum_last (e := fun j => B (j + 1)) (n := 31) hB32).symm
    rw [e, dsum_mask (by decide) (fun j => l1 (j + 1)) mk5, show (32 : Nat) = 2 * 16 from rfl, dsum_two]
    exact dsum_cong (fun k hk => by
      have a1 : 2 * k % 2 = 0 := by omega
      have a2 : ¬ (2 * k + 1) % 2 = 0 := by omega
      simp only [a1, a2, if_true, if_false]; omega)
  have s2 : s = dsum 2 (fun k => B (2 * k) + B (2 * k + 1)) 16 + dsum 2 (fun k => B (2 * k + 1)) 16 := by
    conv => lhs; rw [hb, show (32 : Nat) = 2 * 16 from rfl, dsum_two]
    rw [dsum_add]
    exact dsum_cong (fun k hk => by simp only [Nat.pow_one]; omega)
  generalize hE : (fun k => B (2 * k) + B (2 * k + 1)) = E at s2
  have hE2 : ∀ j, E j ≤ 2 := by intro j; rw [← hE]; have := hB1 (2 * j); have := hB1 (2 * j + 1); simp only []; omega
  have l2 : ∀ j, E j < 2 ^ 2 := fun j => by have := hE2 j; omega
  have hE16 : E 16 = 0 := by
    have z : B 33 = 0 := by
      rw [← hB]; simp only []
      rw [Nat.testBit_lt_two_pow (Nat.lt_of_lt_of_le hs (by decide))]; rfl
    rw [← hE]; simp only []; rw [show 2 * 16 = 32 from rfl, hB32, z]
  have y1 : nI s - ((((nI s).toUInt32 >>> (Int32.toUInt32 1 &&& Int32.toUInt32 31)).toInt32) &&& 1431655765) = nI (dsum 2 E 16) := by
    rw [ushI (k := 1) hs _ (by decide), show (1431655765 : Int32) = nI 1431655765 from rfl, fa_and, t1, nSub (by omega)]
    congr 1; omega
  rw [y1] at h1 h2
  have ly := dsum_lt l2 16
  rw [show 2 * 16 = 32 from rfl] at ly
  have m1 : dsum 2 E 16 &&& 858993459 = dsum 4 (fun k => E (2 * k)) 8 := by
    rw [dsum_mask (by decide) l2 mk3, show (16 : Nat) = 2 * 8 from rfl, dsum_two]
    exact dsum_cong (fun k hk => by
      have a1 : 2 * k % 2 = 0 := by omega
      have a2 : ¬ (2 * k + 1) % 2 = 0 := by omega
      simp only [a1, a2, if_true, if_false]; omega)
  have m2 : dsum 2 E 16 / 2 ^ 2 &&& 858993459 = dsum 4 (fun k => E (2 * k + 1)) 8 := by
    have e : dsum 2 E 16 / 2 ^ 2 = dsum 2 (fun j => E (j + 1)) 16 := by
      exact (dsum_shr l2 15).trans (dsum_last (e := fun j => E (j + 1)) (n := 15) hE16).symm
    rw [e, dsum_mask (by decide) (fun j => l2 (j + 1)) mk3, show (16 : Nat) = 2 * 8 from rfl, dsum_two]
    exact dsum_cong (fun k hk => by
      have a1 : 2 * k % 2 = 0 := by omega
      have a2 : ¬ (2 * k + 1) % 2 = 0 := by omega
      simp only [a1, a2, if_true, if_false]; omega)
  rw [show (858993459 : Int32) = nI 858993459 from rfl, fa_and, m1] at h1
  rw [ushI (k := 2) ly _ (by decide)] at h2
  have s4 : v1 + (v2 &&& 858993459) = nI (dsum 4 (fun k => E (2 * k) + E (2 * k + 1)) 8) := by
    rw [h1, h2, show (858993459 : Int32) = nI 858993459 from rfl, fa_and, m2, nAdd, dsum_add]
  rw [s4] at h3
  generalize hF : (fun k => E (2 * k) + E (2 * k + 1)) = F at h3 s4
  have hF4 : ∀ j, F j ≤ 4 := by intro j; rw [← hF]; have := hE2 (2 * j); have := hE2 (2 * j + 1); simp only []; omega
  have l4 : ∀ j, F j < 2 ^ 4 := fun j => by have := hF4 j; omega
  have lf := dsum_lt l4 8
  rw [show 4 * 8 = 32 from rfl] at lf
  have hF8 : F 8 = 0 := by
    have z : ∀ j, 32 ≤ j → B j = 0 := by
      intro j hj
      rw [← hB]; simp only []
      rw [Nat.testBit_lt_two_pow (Nat.lt_of_lt_of_le hs (Nat.pow_le_pow_right (by decide) hj))]; rfl
    rw [← hF, ← hE]; simp only []
    rw [z _ (by decide), z _ (by decide), z _ (by decide), z _ (by decide)]
  have e4 : dsum 4 F 8 / 2 ^ 4 = dsum 4 (fun j => F (j + 1)) 8 := by
    exact (dsum_shr l4 7).trans (dsum_last (e := fun j => F (j + 1)) (n := 7) hF8).symm
  rw [ushI (k := 4) lf _ (by decide), e4, nAdd, dsum_add] at h3
  have l5 : ∀ j, (fun j => F j + F (j + 1)) j < 2 ^ 4 := fun j => by have := hF4 j; have := hF4 (j + 1); simp only []; omega
  have m5 : dsum 4 (fun j => F j + F (j + 1)) 8 &&& 252645135 = dsum 8 (fun k => F (2 * k) + F (2 * k + 1)) 4 := by
    rw [dsum_mask (by decide) l5 mkf, show (8 : Nat) = 2 * 4 from rfl, dsum_two]
    exact dsum_cong (fun k hk => by
      have a1 : 2 * k % 2 = 0 := by omega
      have a2 : ¬ (2 * k + 1) % 2 = 0 := by omega
      simp only [a1, a2, if_true, if_false]; omega)
  have m6 : v3 &&& 252645135 = nI (dsum 8 (fun k => F (2 * k) + F (2 * k + 1)) 4) := by
    rw [h3, show (252645135 : Int32) = nI 252645135 from rfl, fa_and, m5]
  rw [m6] at h4
  generalize hH : (fun k => F (2 * k) + F (2 * k + 1)) = H at h4
  have hH8 : ∀ j, H j ≤ 8 := by intro j; rw [← hH]; have := hF4 (2 * j); have := hF4 (2 * j + 1); simp only []; omega
  have l8 : ∀ j, H j < 2 ^ 8 := fun j => by have := hH8 j; omega
  have lh := dsum_lt l8 4
  rw [show 8 * 4 = 32 from rfl] at lh
  rw [ushI (k := 8) lh _ (by decide)] at h4
  have e8 : dsum 8 H 4 / 2 ^ 8 = H 1 + H 2 * 256 + H 3 * 65536 := by
    rw [show (4 : Nat) = 3 + 1 from rfl, dsum_shr l8]
    simp [dsum]
  have d8 : dsum 8 H 4 = H 0 + H 1 * 256 + H 2 * 65536 + H 3 * 16777216 := by simp [dsum]
  rw [e8, d8, nAdd] at h4
  have p0 := hH8 0
  have p1 := hH8 1
  have p2 := hH8 2
  have p3 := hH8 3
  rw [h4, ushI (k := 16) (by omega) _ (by decide), nAdd, show (63 : Int32) = nI (2 ^ 6 - 1) from rfl, fa_mask]
  congr 1
  have hsum : pc s = H 0 + H 1 + H 2 + H 3 := by
    have hct : ∀ n, fb_ct (fun i => s.testBit i) n = fb_sm B n := by
      intro n
      induction n with
      | zero => rfl
      | succ n ih => rw [fb_ct_succ, fb_sm_succ, ih, ← hB]
    rw [pc_def, hct, ← hH, ← hF, ← hE]
    simp only [fb_sm, Nat.reduceMul, Nat.reduceAdd, Nat.mul_zero, Nat.zero_add]
    omega
  rw [hsum, show (2 : Nat) ^ 16 = 65536 from rfl, show (2 : Nat) ^ 6 = 64 from rfl]
  clear hsum h1 h2 h3 h4 s2 t1 m1 m2 s4 m5 m6 e4 lf ly lh
  generalize H 0 = a at *
  generalize H 1 = b at *
  generalize H 2 = c at *
  generalize H 3 = d at *
  have q1 : (a + b * 256 + c * 65536 + d * 16777216 + (b + c * 256 + d * 65536)) / 65536 = c + d + d * 256 := by omega
  rw [q1]
  omega
section BITS
variable {K : KT} {G : St}
theorem s_bitCount {Q : Int32 → St → Prop} {s : Nat} (hs : s < 4294967296) (hL : Lay G.2.2) (hQ : Q (nI (pc s)) G) : EvI K mJ6_bitCount_0f7a4 0 0 [(0, .int (nI s))] [] G Q := by
  refine kJ6_bitCount_0f7a4_0 hL ?_
  intro v1 h1 v2 h2 v3 h3 v4 h4
  rw [bitCount_eq hs v1 h1 v2 h2 v3 h3 v4 h4]
  exact hQ
/-! the lowest bit -/
noncomputable def lo (s : Nat) : Nat := fa_first (fun i => s.testBit i) w32
theorem lo_def (s : Nat) : lo s = fa_first (fun i => s.testBit i) 32 := by unfold lo; rw [w32_eq]
theorem lo_yes {s : Nat} (h0 : s ≠ 0) (hs : s < 2 ^ 32) : lo s < 32 ∧ s.testBit (lo s) = true ∧ ∀ j, j < lo s → s.testBit j = false := by
  have hno := fa_first_no (fun i => s.testBit i) 32
  have hyes := fa_first_yes (fun i => s.testBit i) 32
  rw [← lo_def] at hno hyes
  have hl : lo s < 32 := by
    rcases Nat.lt_or_ge (lo s) 32 with q | q
    · exact q
    · exfalso
      apply h0
      apply Nat.eq_of_testBit_eq
      intro i
      rw [Nat.zero_testBit]
      rcases Nat.lt_or_ge i 32 with y | y
      · exact hno i (by omega)
      · exact Nat.testBit_lt_two_pow (Nat.lt_of_lt_of_le hs (Nat.pow_le_pow_right (by decide) y))
  exact ⟨hl, hyes hl, hno⟩
theorem lo_dec {s : Nat} (h0 : s ≠ 0) (hs : s < 2 ^ 32) : s = 2 ^ (lo s + 1) * (s / 2 ^ (lo s + 1)) + 2 ^ lo s := by
  obtain ⟨h1, h2, h3⟩ := lo_yes h0 hs
  have hm : s % 2 ^ (lo s + 1) = 2 ^ lo s := by
    apply Nat.eq_of_testBit_eq
    intro i
    rw [Nat.testBit_mod_two_pow, Nat.testBit_two_pow]
    by_cases q : i = lo s
    · subst q; simp [h2]
    · by_cases q2 : i < lo s
      · simp [h3 i q2, Ne.symm q]
      · have : ¬ i < lo s + 1 := by omega
        simp [this, Ne.symm q]
  have := Nat.div_add_mod s (2 ^ (lo s + 1))
  omega
theorem lo_le {s : Nat} (h0 : s ≠ 0) (hs : s < 2 ^ 32) : 2 ^ lo s ≤ s := by have := lo_dec h0 hs; omega
/-- without its lowest bit -/
noncomputable def clr (s : Nat) : Nat := s - 2 ^ lo s
theorem clr_bit {s : Nat} (h0 : s ≠ 0) (hs : s < 2 ^ 32) (i : Nat) : (clr s).testBit i = (s.testBit i && decide (i ≠ lo s)) := by
  obtain ⟨h1, h2, h3⟩ := lo_yes h0 hs
  have hd := lo_dec h0 hs
  have e : clr s = 2 ^ (lo s + 1) * (s / 2 ^ (lo s + 1)) + 0 := by unfold clr; omega
  have h4 : ∀ i, s.testBit i = if i < lo s + 1 then (2 ^ lo s).testBit i else (s / 2 ^ (lo s + 1)).testBit (i - (lo s + 1)) := by
    intro i
    conv => lhs; rw [hd]
    exact Nat.testBit_two_pow_mul_add _ (by rw [Nat.pow_succ]; have := Nat.two_pow_pos (lo s); omega) _
  rw [e, Nat.testBit_two_pow_mul_add _ (Nat.two_pow_pos _), h4]
  by_cases q : i < lo s + 1
  · rw [if_pos q, if_pos q, Nat.testBit_two_pow]
    by_cases q2 : i = lo s
    · simp [q2]
    · simp [Ne.symm q2]
  · rw [if_neg q, if_neg q]
    have : i ≠ lo s := by omega
    simp [this]
theorem m1_bit {s : Nat} (h0 : s ≠ 0) (hs : s < 2 ^ 32) (i : Nat) : (s - 1).testBit i = if i < lo s + 1 then decide (i < lo s) else s.testBit i := by
  obtain ⟨h1, h2, h3⟩ := lo_yes h0 hs
  have hd := lo_dec h0 hs
  have p := Nat.two_pow_pos (lo s)
  have e : s - 1 = 2 ^ (lo s + 1) * (s / 2 ^ (lo s + 1)) + (2 ^ lo s - 1) := by omega
  have h4 : s.testBit i = if i < lo s + 1 then (2 ^ lo s).testBit i else (s / 2 ^ (lo s + 1)).testBit (i - (lo s + 1)) := by
    conv => lhs; rw [hd]
    exact Nat.testBit_two_pow_mul_add _ (by rw [Nat.pow_succ]; omega) _
  rw [e, Nat.testBit_two_pow_mul_add _ (by rw [Nat.pow_succ]; omega)]
  by_cases q : i < lo s + 1
  · rw [if_pos q, if_pos q, Nat.testBit_two_pow_sub_one]
  · rw [if_neg q, if_neg q, h4, if_neg q]
theorem clr_and {s : Nat} (h0 : s ≠ 0) (hs : s < 2 ^ 32) : nI s &&& (nI s - 1) = nI (clr s) := by
  rw [show nI s - 1 = nI (s - 1) from nSubR (by omega), fa_and]
  congr 1
  apply Nat.eq_of_testBit_eq
  intro i
  rw [Nat.testBit_and, m1_bit h0 hs, clr_bit h0 hs]
  obtain ⟨h1, h2, h3⟩ := lo_yes h0 hs
  by_cases q : i < lo s + 1
  · rw [if_pos q]
    by_cases q2 : i = lo s
    · simp [q2]
    · have q3 : i < lo s := by omega
      simp [h3 i q3]
  · rw [if_neg q]
    have : i ≠ lo s := by omega
    simp [this]
theorem low_and {s : Nat} (h0 : s ≠ 0) (hs : s < 2 ^ 31) : nI s &&& (-(nI s)) = nI (2 ^ lo s) := by
  have hs32 : s < 2 ^ 32 := by omega
  have hneg : -(nI s) = (nI (s - 1)) ^^^ (-1) := by
    apply Int32.toBitVec_inj.mp
    rw [Int32.toBitVec_neg, Int32.toBitVec_xor]
    have e : (nI (s - 1)).toBitVec = (nI s).toBitVec - 1 := by
      have : nI (s - 1) = nI s - 1 := (nSubR (b := 1) (show 1 ≤ s by omega)).symm
      rw [this, Int32.toBitVec_sub]; rfl
    rw [e, show (-1 : Int32).toBitVec = BitVec.allOnes 32 from rfl, BitVec.xor_allOnes]
    generalize (nI s).toBitVec = x
    apply BitVec.eq_of_toNat_eq
    have hx := x.isLt
    rw [BitVec.toNat_neg, BitVec.toNat_not, BitVec.toNat_sub]
    show (2 ^ 32 - x.toNat) % 2 ^ 32 = 2 ^ 32 - 1 - (2 ^ 32 - (1#32).toNat + x.toNat) % 2 ^ 32
    rw [show (1#32).toNat = 1 from rfl]
    by_cases q : x.toNat = 0
    · rw [q]
    · rw [show 2 ^ 32 - 1 + x.toNat = x.toNat - 1 + 2 ^ 32 by omega, Nat.add_mod_right, Nat.mod_eq_of_lt (by omega), Nat.mod_eq_of_lt (by omega)]; omega
  obtain ⟨h1, h2, h3⟩ := lo_yes h0 hs32
  have hle := lo_le h0 hs32
  rw [hneg, and_not (c := 2 ^ lo s) hs32 (by omega) (by omega) (fun i => ?_)]
  rw [Nat.testBit_two_pow, m1_bit h0 hs32]
  by_cases q : i < lo s + 1
  · rw [if_pos q]
    by_cases q2 : i = lo s
    · subst q2; simp [h2]
    · have q3 : i < lo s := by omega
      simp [h3 i q3, Ne.symm q2]
  · rw [if_neg q]
    have : ¬ lo s = i := by omega
    simp [this]
theorem tz_0 : ∀ k, k < 31 → (0 < nI (2 ^ k - 1) ↔ 0 < k) := by decide +kernel
theorem tz_a : ∀ k, k < 31 → (nI (2 ^ k - 1) ≤ 65536 ↔ k ≤ 16) := by decide +kernel
theorem tz_b : ∀ k, k < 31 → (nI (2 ^ k - 1) ≤ 256 ↔ k ≤ 8) := by decide +kernel
theorem tz_c : ∀ k, k < 31 → (nI (2 ^ k - 1) ≤ 16 ↔ k ≤ 4) := by decide +kernel
theorem tz_d : ∀ k, k < 31 → (nI (2 ^ k - 1) ≤ 4 ↔ k ≤ 2) := by decide +kernel
theorem tz_s {k j : Nat} (hk : k < 31) (hj : j ≤ k) (y : UInt32) (hy : y.toNat % 32 = j) : ((nI (2 ^ k - 1)).toUInt32 >>> y).toInt32 = nI (2 ^ (k - j) - 1) := by
  have hp : 2 ^ k < 2 ^ 32 := Nat.pow_lt_pow_right (by decide) (by omega)
  rw [ushI (k := j) (by omega) y hy]
  congr 1
  have e : 2 ^ k = 2 ^ j * 2 ^ (k - j) := by rw [← Nat.pow_add]; congr 1; omega
  have p1 := Nat.two_pow_pos j
  have p2 := Nat.two_pow_pos (k - j)
  have e2 : 2 ^ k - 1 = 2 ^ j * (2 ^ (k - j) - 1) + (2 ^ j - 1) := by
    rw [e, Nat.mul_sub, Nat.mul_one]
    have : 2 ^ j ≤ 2 ^ j * 2 ^ (k - j) := Nat.le_mul_of_pos_right _ p2
    omega
  rw [e2, Nat.mul_add_div p1, Nat.div_eq_of_lt (by omega), Nat.add_zero]
theorem s_ntz {Q : Int32 → St → Prop} {s : Nat} (h0 : s ≠ 0) (hs : s < 2147483648) (hL : Lay G.2.2) (hQ : Q (nI (lo s)) G) : EvI K mJ6_numberOfTrailingZeros_0f7a4 0 0 [(0, .int (nI s))] [] G Q := by
  have hs32 : s < 2 ^ 32 := by omega
  obtain ⟨h1, h2, h3⟩ := lo_yes h0 hs32
  have hk31 : lo s < 31 := by
    rcases Nat.lt_or_ge (lo s) 31 with q | q
    · exact q
    · have := lo_le h0 hs32
      have h4 : 2 ^ 31 ≤ 2 ^ lo s := Nat.pow_le_pow_right (by decide) q
      omega
  have hp : 2 ^ lo s < 2 ^ 31 := Nat.pow_lt_pow_right (by decide) hk31
  have e : (nI s ^^^ (-1)) &&& (nI s - 1) = nI (2 ^ lo s - 1) := by
    rw [Int32.and_comm, show nI s - 1 = nI (s - 1) from nSubR (by omega)]
    refine and_not (c := 2 ^ lo s - 1) (by omega) hs32 (by omega) (fun i => ?_)
    rw [Nat.testBit_two_pow_sub_one, m1_bit h0 hs32]
    by_cases q : i < lo s + 1
    · rw [if_pos q]
      by_cases q2 : i = lo s
      · simp [q2]
      · have q3 : i < lo s := by omega
        simp [h3 i q3]
    · rw [if_neg q]
      have q3 : ¬ i < lo s := by omega
      simp [q3]
  generalize hk : lo s = k at *
  -- the steps
  have p74 : ∀ j, 0 < j → j ≤ 2 → j ≤ k → EvI K mJ6_numberOfTrailingZeros_0f7a4 0 74 [(0, .int (nI (2 ^ j - 1))), (1, .int (nI (1 + (k - j))))] [] G Q := by
    intro j h1 h2 h3
    refine kJ6_numberOfTrailingZeros_0f7a4_74 hL ?_
    rw [tz_s (j := 1) (by omega) h1 _ (by decide), nAdd]
    rcases (show j = 1 ∨ j = 2 by omega) with rfl | rfl
    · rw [show 1 + (k - 1) + (2 ^ (1 - 1) - 1) = k by simp; omega]; exact hQ
    · rw [show 1 + (k - 2) + (2 ^ (2 - 1) - 1) = k by simp; omega]; exact hQ
  have p62 : ∀ j, 0 < j → j ≤ 4 → j ≤ k → EvI K mJ6_numberOfTrailingZeros_0f7a4 0 62 [(0, .int (nI (2 ^ j - 1))), (1, .int (nI (1 + (k - j))))] [] G Q := by
    intro j h1 h2 h3
    refine kJ6_numberOfTrailingZeros_0f7a4_62 hL ?_
    rw [tz_d j (by omega)]
    refine ⟨fun z => p74 j h1 z h3, fun z => ?_⟩
    rw [tz_s (j := 2) (by omega) (by omega) _ (by decide), show nI (1 + (k - j)) + 2 = nI (1 + (k - (j - 2))) from by rw [nAddR]; congr 1; omega]
    exact p74 (j - 2) (by omega) (by omega) (by omega)
  have p49 : ∀ j, 0 < j → j ≤ 8 → j ≤ k → EvI K mJ6_numberOfTrailingZeros_0f7a4 0 49 [(0, .int (nI (2 ^ j - 1))), (1, .int (nI (1 + (k - j))))] [] G Q := by
    intro j h1 h2 h3
    refine kJ6_numberOfTrailingZeros_0f7a4_49 hL ?_
    rw [tz_c j (by omega)]
    refine ⟨fun z => p62 j h1 z h3, fun z => ?_⟩
    rw [tz_s (j := 4) (by omega) (by omega) _ (by decide), show nI (1 + (k - j)) + 4 = nI (1 + (k - (j - 4))) from by rw [nAddR]; congr 1; omega]
    exact p62 (j - 4) (by omega) (by omega) (by omega)
  have p34 : ∀ j, 0 < j → j ≤ 16 → j ≤ k → EvI K mJ6_numberOfTrailingZeros_0f7a4 0 34 [(0, .int (nI (2 ^ j - 1))), (1, .int (nI (1 + (k - j))))] [] G Q := by
    intro j h1 h2 h3
    refine kJ6_numberOfTrailingZeros_0f7a4_34 hL ?_
    rw [tz_b j (by omega)]
    refine ⟨fun z => p49 j h1 z h3, fun z => ?_⟩
    rw [tz_s (j := 8) (by omega) (by omega) _ (by decide), show nI (1 + (k - j)) + 8 = nI (1 + (k - (j - 8))) from by rw [nAddR]; congr 1; omega]
    exact p49 (j - 8) (by omega) (by omega) (by omega)
  refine kJ6_numberOfTrailingZeros_0f7a4_0 hL ?_
  rw [e, tz_0 k hk31, tz_a k hk31]
  refine ⟨fun z0 => ⟨fun z => ?_, fun z v1 ev1 => ?_⟩, fun z0 => ?_⟩
  · have := p34 k z0 z (Nat.le_refl _)
    rw [Nat.sub_self] at this
    exact this
  · rw [tz_s (j := 16) (by omega) (by omega) _ (by decide)] at ev1
    subst ev1
    have := p34 (k - 16) (by omega) (by omega) (by omega)
    rw [show 1 + (k - (k - 16)) = 17 by omega] at this
    exact this
  · have : k = 0 := by omega
    subst this
    exact hQ
/-! the bits of a set, rising -/
def blf (s : Nat) : Nat → Nat → List Nat
  | _, 0 => []
  | i, m + 1 => if s.testBit i = true then i :: blf s (i + 1) m else blf s (i + 1) m
noncomputable def bl (s : Nat) : List Nat := blf s 0 w32
theorem bl_def (s : Nat) : bl s = blf s 0 32 := by unfold bl; rw [w32_eq]
theorem blf_mem {s : Nat} : ∀ {m i r : Nat}, r ∈ blf s i m ↔ i ≤ r ∧ r < i + m ∧ s.testBit r = true
  | 0, i, r => by simp [blf]; omega
  | m + 1, i, r => by
    rw [blf]
    split
    · rename_i h
      rw [List.mem_cons, blf_mem]
      constructor
      · rintro (rfl | ⟨a, b, c⟩)
        · exact ⟨by omega, by omega, h⟩
        · exact ⟨by omega, by omega, c⟩
      · rintro ⟨a, b, c⟩
        by_cases q : r = i
        · exact Or.inl q
        · exact Or.inr ⟨by omega, by omega, c⟩
    · rename_i h
      rw [blf_mem]
      constructor
      · rintro ⟨a, b, c⟩; exact ⟨by omega, by omega, c⟩
      · rintro ⟨a, b, c⟩
        refine ⟨?_, by omega, c⟩
        by_cases q : r = i
        · subst q; exact absurd c h
        · omega
theorem bl_mem {s r : Nat} (hs : s < 2 ^ 32) : r ∈ bl s ↔ s.testBit r = true := by
  rw [bl_def, blf_mem]
  constructor
  · exact fun h => h.2.2
  · intro h
    refine ⟨Nat.zero_le _, ?_, h⟩
    rcases Nat.lt_or_ge r 32 with q | q
    · omega
    · rw [Nat.testBit_lt_two_pow (Nat.lt_of_lt_of_le hs (Nat.pow_le_pow_right (by decide) q))] at h; cases h
theorem blf_cong {s s' : Nat} : ∀ {m i : Nat}, (∀ j, i ≤ j → j < i + m → s.testBit j = s'.testBit j) → blf s i m = blf s' i m
  | 0, i, _ => rfl
  | m + 1, i, h => by
    rw [blf, blf, h i (by omega) (by omega), blf_cong (fun j a b => h j (by omega) (by omega))]
theorem blf_skip {s : Nat} : ∀ {m i k : Nat}, (∀ j, i ≤ j → j < i + k → s.testBit j = false) → blf s i (k + m) = blf s (i + k) m
  | m, i, 0, _ => by simp
  | m, i, k + 1, h => by
    rw [show k + 1 + m = (k + m) + 1 by omega, blf, if_neg (by rw [h i (by omega) (by omega)]; decide), blf_skip (fun j a b => h j (by omega) (by omega))]
    congr 1; omega
theorem bl_cons {s : Nat} (h0 : s ≠ 0) (hs : s < 2 ^ 32) : bl s = lo s :: bl (clr s) := by
  obtain ⟨h1, h2, h3⟩ := lo_yes h0 hs
  obtain ⟨m, hm⟩ : ∃ m, 32 = lo s + (m + 1) := ⟨31 - lo s, by omega⟩
  have e1 : bl s = blf s (lo s) (m + 1) := by
    rw [bl_def, hm, blf_skip (fun j a b => h3 j (by omega))]; simp
  have e2 : bl (clr s) = blf (clr s) (lo s + 1) m := by
    rw [bl_def, show 32 = (lo s + 1) + m by omega, blf_skip (fun j a b => by
      rw [clr_bit h0 hs]
      by_cases q : j = lo s
      · simp [q]
      · rw [h3 j (by omega)]; rfl)]
    simp
  rw [e1, blf, if_pos h2, e2]
  congr 1
  refine blf_cong (fun j a b => ?_)
  rw [clr_bit h0 hs]
  have : j ≠ lo s := by omega
  simp [this]
theorem bl_0 : bl 0 = [] := by rw [bl_def]; decide
theorem blf_len (s : Nat) : ∀ m i, (blf s i m).length = fb_ct (fun j => s.testBit (i + j)) m
  | 0, i => rfl
  | m + 1, i => by
    have h := fb_ct_split (fun j => s.testBit (i + j)) 1 m
    rw [show m + 1 = 1 + m by omega, h]
    have ih := blf_len s m (i + 1)
    have e : fb_ct (fun k => s.testBit (i + (1 + k))) m = (blf s (i + 1) m).length := by
      rw [ih]; exact fb_ct_cong (fun k _ => by rw [Nat.add_assoc])
    rw [e, show 1 + m = m + 1 by omega, blf]
    have e1 : fb_ct (fun j => s.testBit (i + j)) 1 = if s.testBit i then 1 else 0 := by
      rw [fb_ct_succ]; simp [fb_ct]
    rw [e1]
    split <;> simp_all <;> omega
theorem bl_len (s : Nat) : (bl s).length = pc s := by
  rw [bl_def, pc_def, blf_len]
  exact fb_ct_cong (fun k _ => by rw [Nat.zero_add])
theorem clr_lt {s : Nat} : clr s ≤ s := Nat.sub_le _ _
theorem pc_clr {s : Nat} (h0 : s ≠ 0) (hs : s < 2 ^ 32) : pc s = pc (clr s) + 1 := by rw [← bl_len, ← bl_len, bl_cons h0 hs]; rfl
theorem pc_0 : pc 0 = 0 := by rw [pc_def]; decide
theorem pc_pos {s : Nat} (hs : s < 2 ^ 32) : pc s = 0 ↔ s = 0 := by
  constructor
  · intro h
    by_cases q : s = 0
    · exact q
    · have := pc_clr q hs; omega
  · intro h; rw [h]; exact pc_0
theorem pc_le (s : Nat) : pc s ≤ 32 := by rw [pc_def]; exact fb_ct_le _ _
end BITS

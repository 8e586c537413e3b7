/-! the next set of as many rows -/
theorem pc_split {a b n : Nat} (hb : b < 2 ^ n) (hn : n ≤ 32) (ha : a < 2 ^ (32 - n)) : pc (2 ^ n * a + b) = pc a + pc b := by
  have bit : ∀ i, (2 ^ n * a + b).testBit i = if i < n then b.testBit i else a.testBit (i - n) := fun i => Nat.testBit_two_pow_mul_add _ hb i
  rw [pc_def, pc_def, pc_def]
  have e32 : 32 = n + (32 - n) := by omega
  have h1 : fb_ct (fun i => (2 ^ n * a + b).testBit i) 32 = fb_ct (fun i => b.testBit i) n + fb_ct (fun i => a.testBit i) (32 - n) := by
    conv => lhs; rw [e32]
    rw [fb_ct_split]
    congr 1
    · exact fb_ct_cong (fun k hk => by rw [bit, if_pos hk])
    · exact fb_ct_cong (fun k _ => by rw [bit, if_neg (by omega), Nat.add_sub_cancel_left])
  have h2 : fb_ct (fun i => b.testBit i) 32 = fb_ct (fun i => b.testBit i) n := by
    conv => lhs; rw [e32]
    have z : fb_ct (fun k => b.testBit (n + k)) (32 - n) = 0 := fb_ct_zero.mpr (fun k _ => Nat.testBit_lt_two_pow (Nat.lt_of_lt_of_le hb (Nat.pow_le_pow_right (by decide) (by omega))))
    rw [fb_ct_split, z]
    rfl
  have h3 : fb_ct (fun i => a.testBit i) 32 = fb_ct (fun i => a.testBit i) (32 - n) := by
    conv => lhs; rw [show 32 = (32 - n) + n by omega]
    have z : fb_ct (fun k => a.testBit (32 - n + k)) n = 0 := fb_ct_zero.mpr (fun k _ => Nat.testBit_lt_two_pow (Nat.lt_of_lt_of_le ha (Nat.pow_le_pow_right (by decide) (by omega))))
    rw [fb_ct_split, z]
    rfl
  rw [h1, h2, h3, Nat.add_comm]
theorem pc_ones {m : Nat} (hm : m ≤ 32) : pc (2 ^ m - 1) = m := by
  rw [pc_def]
  have e : 32 = m + (32 - m) := by omega
  conv => lhs; rw [e]
  rw [fb_ct_split, fb_ct_all.mpr (fun k hk => by rw [Nat.testBit_two_pow_sub_one]; simp [hk]), fb_ct_zero.mpr (fun k _ => by rw [Nat.testBit_two_pow_sub_one]; simp)]
  rfl
theorem pc_below {z m : Nat} (hm : m ≤ 32) (h : z < 2 ^ m - 1) : pc z < m := by
  have hsb : sb z (2 ^ m - 1) := fun i hi => by
    rw [Nat.testBit_two_pow_sub_one]
    have := bt_lt (s := z) (n := m) (by omega) hi
    simp [this]
  have h1 := pc_sb hsb
  rw [pc_ones hm] at h1
  rcases Nat.lt_or_ge (pc z) m with q | q
  · exact q
  · have p1 : 2 ^ m ≤ 2 ^ 32 := Nat.pow_le_pow_right (by decide) hm
    have := pc_eq (a := z) (s := 2 ^ m - 1) (by have := Nat.two_pow_pos m; omega) hsb (by rw [pc_ones hm]; exact q)
    omega
/-- a run of rows and what lies above it -/
theorem run_ex {s : Nat} (h0 : s ≠ 0) (hs : s < 2 ^ 30) : ∃ m H, 1 ≤ m ∧ lo s + m ≤ 30 ∧ s = 2 ^ (lo s + m + 1) * H + (2 ^ (lo s + m) - 2 ^ lo s) := by
  have hs32 : s < 2 ^ 32 := by omega
  obtain ⟨h1, h2, h3⟩ := lo_yes h0 hs32
  have hlo : lo s < 30 := bt_lt hs h2
  obtain ⟨m, hm1, hm2, hm3⟩ := fb_first (p := fun i => s.testBit (lo s + i) = false) (n := 32 - lo s) ⟨30 - lo s, by omega, Nat.testBit_lt_two_pow (Nat.lt_of_lt_of_le hs (Nat.pow_le_pow_right (by decide) (by omega)))⟩
  have ones : ∀ i, i < m → s.testBit (lo s + i) = true := fun i hi => by
    have := hm3 i hi
    simpa using this
  have m1 : 1 ≤ m := by
    rcases Nat.eq_zero_or_pos m with q | q
    · subst q; rw [Nat.add_zero, h2] at hm2; cases hm2
    · exact q
  have hlm : lo s + m ≤ 30 := by
    have := bt_lt hs (ones (m - 1) (by omega))
    omega
  refine ⟨m, s / 2 ^ (lo s + m + 1), m1, hlm, ?_⟩
  have e : s % 2 ^ (lo s + m + 1) = 2 ^ (lo s + m) - 2 ^ lo s := by
    have el : 2 ^ (lo s + m) - 2 ^ lo s = 2 ^ lo s * (2 ^ m - 1) := by rw [Nat.pow_add, Nat.mul_sub, Nat.mul_one]
    apply Nat.eq_of_testBit_eq
    intro i
    rw [el, Nat.testBit_mod_two_pow, Nat.testBit_two_pow_mul, Nat.testBit_two_pow_sub_one]
    rcases Nat.lt_or_ge i (lo s) with q | q
    · rw [h3 i q]
      have : ¬ lo s ≤ i := by omega
      simp [this]
    · by_cases q2 : i < lo s + m
      · have := ones (i - lo s) (by omega)
        rw [show lo s + (i - lo s) = i by omega] at this
        have a : i < lo s + m + 1 := by omega
        have b : i - lo s < m := by omega
        simp [this, q, a, b]
      · have b : ¬ i - lo s < m := by omega
        by_cases q3 : i = lo s + m
        · subst q3; rw [hm2]; simp [b]
        · have a : ¬ i < lo s + m + 1 := by omega
          simp [a, b]
  have := Nat.div_add_mod s (2 ^ (lo s + m + 1))
  omega
theorem mul_pow_lt {a i j : Nat} (h : a < 2 ^ i) : 2 ^ j * a < 2 ^ (i + j) := by
  rw [Nat.pow_add, Nat.mul_comm]
  exact Nat.mul_lt_mul_of_pos_right h (Nat.two_pow_pos j)
section NEXT
variable {K : KT} {G : St}
theorem s_nextOf {Q : Int32 → St → Prop} {s : Nat} (h0 : s ≠ 0) (hs : s < 1073741824) (hL : Lay G.2.2) (hQ : ∀ x, s < x → x < 2147483648 → pc x = pc s → (∀ y, s < y → y < x → pc y ≠ pc s) → Q (nI x) G) : EvI K mX12_nextOf 0 0 [(0, .int (nI s))] [] G Q := by
  obtain ⟨m, H, m1, hlm, hsd⟩ := run_ex h0 hs
  generalize hk : lo s = k at *
  have pk := Nat.two_pow_pos k
  have hH : H < 2 ^ (29 - (k + m)) ∨ k + m = 30 := by
    rcases Nat.lt_or_ge (k + m) 30 with q | q
    · left
      rcases Nat.lt_or_ge H (2 ^ (29 - (k + m))) with z | z
      · exact z
      · have : 2 ^ (k + m + 1) * 2 ^ (29 - (k + m)) ≤ 2 ^ (k + m + 1) * H := Nat.mul_le_mul_left _ z
        rw [← Nat.pow_add, show k + m + 1 + (29 - (k + m)) = 30 by omega] at this
        omega
    · right; omega
  have hH0 : k + m = 30 → H = 0 := by
    intro e
    rcases Nat.eq_zero_or_pos H with q | q
    · exact q
    · have : 2 ^ (k + m + 1) * 1 ≤ 2 ^ (k + m + 1) * H := Nat.mul_le_mul_left _ q
      have e31 : 2 ^ (k + m + 1) = 2147483648 := by rw [e]
      omega
  have e1 : 2 ^ (k + m + 1) = 2 ^ (k + m) + 2 ^ (k + m) := by rw [Nat.pow_succ]; omega
  have e2 : 2 ^ k ≤ 2 ^ (k + m) := Nat.pow_le_pow_right (by decide) (by omega)
  have e3 : 2 ^ (m - 1) ≤ 2 ^ (k + m) := Nat.pow_le_pow_right (by decide) (by omega)
  have pm1 := Nat.two_pow_pos (m - 1)
  have lkm : 2 ^ (k + m) ≤ 2 ^ 30 := Nat.pow_le_pow_right (by decide) hlm
  -- what comes
  have hup : s + 2 ^ k = 2 ^ (k + m + 1) * H + 2 ^ (k + m) := by omega
  have hup31 : s + 2 ^ k < 2 ^ 31 := by
    have : 2 ^ k ≤ s := by rw [← hk]; exact lo_le h0 (by omega)
    omega
  have hx : (s + 2 ^ k) ||| (2 ^ (m - 1) - 1) = 2 ^ (k + m + 1) * H + (2 ^ (k + m) + (2 ^ (m - 1) - 1)) := by
    have a := Nat.two_pow_add_eq_or_of_lt (show 2 ^ (m - 1) - 1 < 2 ^ (k + m) by omega) (2 * H + 1)
    have b : 2 ^ (k + m) * (2 * H + 1) = s + 2 ^ k := by
      rw [hup, Nat.mul_add, Nat.mul_one, e1, ← Nat.mul_assoc, Nat.mul_two]
    rw [b] at a
    rw [← a, hup]; omega
  have hxor : s ^^^ (s + 2 ^ k) = 2 ^ (k + m + 1) - 2 ^ k := by
    have lb : 2 ^ (k + m) - 2 ^ k < 2 ^ (k + m) := by omega
    have el : 2 ^ (k + m + 1) - 2 ^ k = 2 ^ (k + m) + (2 ^ (k + m) - 2 ^ k) := by omega
    rw [hup]
    conv => lhs; rw [hsd]
    rw [el]
    apply Nat.eq_of_testBit_eq
    intro i
    rw [Nat.testBit_xor, Nat.testBit_two_pow_mul_add _ (show 2 ^ (k + m) - 2 ^ k < 2 ^ (k + m + 1) by omega), Nat.testBit_two_pow_mul_add _ (show 2 ^ (k + m) < 2 ^ (k + m + 1) by omega)]
    have hor := Nat.two_pow_add_eq_or_of_lt lb 1
    rw [Nat.mul_one] at hor
    rw [hor, Nat.testBit_or, p2_bit]
    by_cases q : i < k + m + 1
    · rw [if_pos q, if_pos q]
      by_cases q2 : k + m = i
      · have : (2 ^ (k + m) - 2 ^ k).testBit i = false := by rw [← q2]; exact Nat.testBit_lt_two_pow lb
        rw [this]; simp [q2]
      · simp [q2]
    · rw [if_neg q, if_neg q]
      have q2 : ¬ k + m = i := by omega
      have : (2 ^ (k + m) - 2 ^ k).testBit i = false := Nat.testBit_lt_two_pow (Nat.lt_of_lt_of_le lb (Nat.pow_le_pow_right (by decide) (by omega)))
      rw [this]; simp [q2]
  have hlast : (2 ^ (k + m + 1) - 2 ^ k) / 4 / 2 ^ k = 2 ^ (m - 1) - 1 := by
    have a : 2 ^ (k + m + 1) - 2 ^ k = 2 ^ k * (4 * 2 ^ (m - 1) - 1) := by
      rw [Nat.mul_sub, Nat.mul_one, show 4 * 2 ^ (m - 1) = 2 ^ (m + 1) from by rw [show m + 1 = (m - 1) + 2 by omega, Nat.pow_add]; omega, ← Nat.pow_add]
      rfl
    rw [a, Nat.div_div_eq_div_mul, Nat.mul_comm 4 (2 ^ k), ← Nat.div_div_eq_div_mul, Nat.mul_div_cancel_left _ pk]
    omega
  -- the shifts
  have loop : ∀ (i : Nat), i ≤ k → EvI K mX12_nextOf 0 18 [(2, .int (nI (s + 2 ^ k))), (3, .int (nI ((2 ^ (k + m + 1) - 2 ^ k) / 4 / 2 ^ (k - i)))), (4, .int (nI (2 ^ i)))] [] G Q := by
    have hpc : pc s = pc H + m := by
      have hHlt : H < 2 ^ (32 - (k + m + 1)) := by
        rcases hH with q | q
        · exact Nat.lt_of_lt_of_le q (Nat.pow_le_pow_right (by decide) (by omega))
        · rw [hH0 q]; exact Nat.two_pow_pos _
      have el : 2 ^ (k + m) - 2 ^ k = 2 ^ k * (2 ^ m - 1) + 0 := by rw [Nat.pow_add, Nat.mul_sub, Nat.mul_one, Nat.add_zero]
      rw [hsd, pc_split (by omega) (by omega) hHlt, el, pc_split (Nat.two_pow_pos k) (by omega) (by
        have := Nat.pow_le_pow_right (n := 2) (by decide) (show m ≤ 32 - k by omega)
        have := Nat.two_pow_pos m
        omega), pc_ones (by omega), pc_0]
      omega
    intro i
    induction i with
    | zero =>
      intro _
      refine kX12_nextOf_18 hL ⟨fun _ => ?_, fun z => absurd (by decide) z⟩
      rw [Nat.sub_zero, hlast, fa_or, hx]
      have hHlt : H < 2 ^ (32 - (k + m + 1)) := by
        rcases hH with q | q
        · exact Nat.lt_of_lt_of_le q (Nat.pow_le_pow_right (by decide) (by omega))
        · rw [hH0 q]; exact Nat.two_pow_pos _
      refine hQ _ (by omega) (by rw [← hx]; exact Nat.or_lt_two_pow (n := 31) hup31 (by omega)) ?_ (fun y hy1 hy2 => ?_)
      · rw [pc_split (by omega) (by omega) hHlt, hpc]
        have a : 2 ^ (k + m) + (2 ^ (m - 1) - 1) = 2 ^ (k + m) * 1 + (2 ^ (m - 1) - 1) := by omega
        rw [a, pc_split (by omega) (by omega) (Nat.one_lt_two_pow (by omega)), pc_ones (by omega)]
        have : pc 1 = 1 := pc_one 0 (by decide)
        omega
      · -- between
        obtain ⟨z, hz⟩ : ∃ z, y = 2 ^ (k + m + 1) * H + z := ⟨y - 2 ^ (k + m + 1) * H, by omega⟩
        have hz1 : 2 ^ (k + m) - 2 ^ k < z := by omega
        have hz2 : z < 2 ^ (k + m) + (2 ^ (m - 1) - 1) := by omega
        rw [hz, pc_split (by omega) (by omega) hHlt, hpc]
        rcases Nat.lt_or_ge z (2 ^ (k + m)) with q | q
        · have el : z = 2 ^ k * (2 ^ m - 1) + (z - (2 ^ (k + m) - 2 ^ k)) := by
            have : 2 ^ k * (2 ^ m - 1) = 2 ^ (k + m) - 2 ^ k := by rw [Nat.pow_add, Nat.mul_sub, Nat.mul_one]
            omega
          rw [el, pc_split (by omega) (by omega) (by
            have := Nat.pow_le_pow_right (n := 2) (by decide) (show m ≤ 32 - k by omega)
            have := Nat.two_pow_pos m
            omega), pc_ones (by omega)]
          have : pc (z - (2 ^ (k + m) - 2 ^ k)) ≠ 0 := fun e => by
            have := (pc_pos (s := z - (2 ^ (k + m) - 2 ^ k)) (by omega)).mp e
            omega
          omega
        · have el : z = 2 ^ (k + m) * 1 + (z - 2 ^ (k + m)) := by omega
          rw [el, pc_split (by omega) (by omega) (Nat.one_lt_two_pow (by omega))]
          have := pc_below (z := z - 2 ^ (k + m)) (m := m - 1) (by omega) (by omega)
          have : pc 1 = 1 := pc_one 0 (by decide)
          omega
    | succ i ih =>
      intro hi
      have p2i : 2 ^ (i + 1) ≤ 2 ^ 30 := Nat.pow_le_pow_right (by decide) (by omega)
      have p1i := Nat.two_pow_pos i
      have ps : 2 ^ (i + 1) = 2 * 2 ^ i := by rw [Nat.pow_succ]; omega
      have hlt : (2 ^ (k + m + 1) - 2 ^ k) / 4 / 2 ^ (k - (i + 1)) < 2 ^ 31 := Nat.lt_of_le_of_lt (Nat.div_le_self _ _) (by omega)
      refine kX12_nextOf_18 hL ?_
      rw [pk_shrN hlt (1 &&& 31) 1 (by decide), pk_shrN (by omega) (1 &&& 31) 1 (by decide)]
      refine ⟨fun z => absurd z (by rw [nLeR (by omega) (by decide)]; show ¬ 2 ^ (i + 1) ≤ 1; omega), fun _ => ?_⟩
      have := ih (by omega)
      rw [show (2 ^ (k + m + 1) - 2 ^ k) / 4 / 2 ^ (k - (i + 1)) / 2 ^ 1 = (2 ^ (k + m + 1) - 2 ^ k) / 4 / 2 ^ (k - i) from by rw [Nat.div_div_eq_div_mul, ← Nat.pow_add]; congr 2; omega, show 2 ^ (i + 1) / 2 ^ 1 = 2 ^ i from by rw [ps]; omega]
      exact this
  refine kX12_nextOf_0 hL ?_
  rw [low_and h0 (by omega), hk, nAdd, fb_xorI, hxor, pk_shrN (by omega) (2 &&& 31) 2 (by decide)]
  have := loop k (Nat.le_refl _)
  rw [Nat.sub_self, Nat.pow_zero, Nat.div_one] at this
  exact this
end NEXT

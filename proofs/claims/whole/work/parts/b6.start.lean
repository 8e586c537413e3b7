/-! the start: nothing is told -/
def a0 : AS := ((0, fun _ => 0), eT, (0, fun _ => 0, fun _ _ => 0), eQ, (fun _ _ => false), 0, 4, (0, fun _ => 0), (fun _ => 0), (0, fun _ => false, fun _ => false))
theorem a0_ok : OkA 0 a0 := ⟨Nat.zero_le _, fun t ht => absurd ht (Nat.not_lt_zero _), fun t c ht => absurd ht (Nat.not_lt_zero _), fun t u ht => absurd ht (Nat.not_lt_zero _), fun t ht => absurd ht (Nat.not_lt_zero _), Nat.zero_le _, fun r hr => absurd hr (Nat.not_lt_zero _), fun r c hr => absurd hr (Nat.not_lt_zero _), fun r c hr => absurd hr (Nat.not_lt_zero _), Nat.zero_le _, fun k hk => absurd hk (Nat.not_lt_zero _), fun k hk => absurd hk (Nat.not_lt_zero _), (by decide : (0 : Nat) < 4), (by decide : (1 : Nat) ≤ 4), (by decide : (4 : Nat) ≤ 5), fun _ _ _ => rfl, fun k hk => absurd hk (Nat.not_lt_zero _), Nat.zero_le _, fun _ => Nat.zero_le _, Nat.zero_le _, Nat.zero_le _⟩
set_option maxRecDepth 40000 in
theorem sE_8 : sR sE 1 8 = 39 := by decide +kernel
set_option maxRecDepth 40000 in
theorem sE_10 : sR sE 1 10 = 59 := by decide +kernel
set_option maxRecDepth 40000 in
theorem sE_rm : Rm 0 sE := by unfold Rm; decide +kernel
set_option maxRecDepth 40000 in
theorem sE_i : sI sE 2 2 = 0 ∧ sI sE 39 9 = 0 ∧ sI sE 39 10 = 0 ∧ (∀ t, t < 5 → sI sE 46 t = 0) ∧ (∀ p, p < 4 → sI sE 48 p = 0) ∧ sI sE 59 2 = 0 ∧ sI sE 1 12 = 0 ∧ sI sE 1 13 = 4 ∧ sI sE 14 4 = 0 ∧ sI sE 28 11 = 0 ∧ sI sE 65 0 = 0 ∧ sI sE 65 1 = 0 ∧ sI sE 65 2 = 0 ∧ sI sE 1 15 = 0 ∧ sI sE 1 16 = 0 ∧ sI sE 1 17 = 0 ∧ sI sE 1 18 = 0 := by decide +kernel
set_option maxRecDepth 40000 in
theorem sE_m : sI sE 66 2 = 0 ∧ (∀ k, k < 8 → sL sE 71 k = lN (mw k)) ∧ sI sE 72 0 = 0 ∧ sI sE 66 16 = 0 ∧ (∀ k, k < 120 → sI sE 83 k = 0) ∧ sI sE 66 20 = 0 ∧ sI sE 66 26 = 0 ∧ sI sE 66 27 = 4 ∧ sI sE 66 29 = 0 ∧ sI sE 66 54 = 0 ∧ sI sE 66 15 = 1 := by decide +kernel
set_option maxRecDepth 40000 in
theorem sE_99 (x : Nat) : sI sE 99 x = 0 := rfl
theorem x_start : XI 0 sen sE a0 := by
  obtain ⟨i1, i2, i3, i4, i5, i6, i7, i8, i9, i10, i11, i12, i13, i14, i15, i16, i17⟩ := sE_i
  refine ⟨sE_lay, sE_rm, ⟨⟨i1, Nat.zero_le _, fun j hj => absurd hj (Nat.not_lt_zero _)⟩, ?_, ?_, ?_, ?_, i7, i8, ⟨i9, Nat.zero_le _, fun k hk => absurd hk (Nat.not_lt_zero _)⟩, ⟨[], List.nodup_nil, fun y hy => (by cases hy), i10, fun i y hy => (by simp at hy), fun y _ => rfl⟩, i11, i12, i13⟩, fun z => absurd i15 z, fun z => absurd i14 z, fun z => absurd i16 z, fun z => absurd i17 z⟩
  · rw [sE_8]; exact ⟨i2, Nat.zero_le _, fun t ht => absurd ht (Nat.not_lt_zero _)⟩
  · rw [sE_8]; exact ⟨i3, Nat.zero_le _, fun r hr => absurd hr (Nat.not_lt_zero _), fun t ht => i4 t ht⟩
  · rw [sE_8]; exact ⟨fun p hp => ⟨0, by decide, i5 p hp, fun r => Nat.zero_testBit r⟩, fun p r _ => rfl⟩
  · rw [sE_10]; exact ⟨i6, Nat.zero_le _, fun k hk => absurd hk (Nat.not_lt_zero _)⟩
theorem m_start : MI sE a0 := by
  obtain ⟨m1, m2, m3, m4, m5, m6, m7, m8, m9, m10, m11⟩ := sE_m
  exact ⟨⟨⟨m1, Nat.zero_le _, fun j hj => absurd hj (Nat.not_lt_zero _)⟩, m2, ⟨m3, Nat.zero_le _, fun t ht => absurd ht (Nat.not_lt_zero _)⟩, ⟨m4, Nat.zero_le _, fun r hr => absurd hr (Nat.not_lt_zero _)⟩, ⟨fun p r hp hr => m5 _ (by omega), fun p r _ => rfl⟩, ⟨m6, Nat.zero_le _, fun k hk => absurd hk (Nat.not_lt_zero _)⟩, m7, m8, ⟨m9, Nat.zero_le _, fun k hk => absurd hk (Nat.not_lt_zero _)⟩, fun x _ => sE_99 x, m10, fun k hk => absurd hk (Nat.not_lt_zero _)⟩, fun z => absurd z (by rw [m11]; decide)⟩
theorem lawOK : LawOK := fun K hst hkl => (law_all (K := K) hst hkl 512 0 sE a0 rfl (Nat.zero_le _) x_start m_start a0_ok).mono (fun r G ⟨x, e, q1, q2, q3⟩ => ⟨x, e, q1, Nat.le_trans q2 (by decide), Nat.le_trans q3 (by decide)⟩)
theorem i_vc : Claimed_1_1 ∧ Claimed_1_2 := i_vc_of lawOK

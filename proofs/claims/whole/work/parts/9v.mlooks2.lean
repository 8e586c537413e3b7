/-! looks: the model's walk -/
section MLOOKS2
variable {K : KT} {G : St} {a : AS} {e : Nat}
theorem i2e {x : Int32} (h1 : 0 ≤ x.toInt) (h2 : x.toInt ≤ 2) (n0 : ¬ x = 0) (n1 : ¬ x = 1) : x = 2 := by
  rcases i3 h1 h2 with z | z | z
  · exact absurd z n0
  · exact absurd z n1
  · exact z
theorem bstO_snoc {q : Nat → Bool} {c : Nat → Nat} {l : List Nat} {s : Nat} {o : Option Nat} : bstO q c (l ++ [s]) o = if q s = true then oMin (bstO q c l o) (c s) else bstO q c l o := by
  unfold bstO
  rw [List.foldl_append]; rfl
theorem m_looks {Q : Int32 → St → Prop} {x y : Int32} (hL : Lay G.2.2) (h : MI G a) (ho : OkA e a) (hQ : ∀ G', Lay G'.2.2 → MI G' a → KM G G' → Q (rLooks a x y) G') : EvI K mX12_looks 6 0 [(0, .ref 66), (1, .int x), (2, .int y)] [] G Q := by
  have q4 := ho.q4
  have w30 := ho.w30
  have al := ho.al
  have h0 := h.th ho (v := 0)
  have l0 := ly_th hL (v := 0)
  have hr0 := hQ (uI G 66 0 0) l0 h0 km_th
  unfold rLooks at hr0
  have W5 := ho.W5
  refine kX12_looks_0 hL ?_
  rw [h.c.tq.1]
  refine ⟨fun z => ?_, fun z => s_X12_within l0 ?_⟩
  · rw [if_neg (fun u => u.1 (by rw [show (0 : Int32) = nI 0 from rfl, nEq (by omega) (by decide)] at z; exact z))] at hr0
    exact hr0
  have q0 : a.q.1 ≠ 0 := fun u => z (by rw [u]; rfl)
  rw [show (0 : Int32).toInt = 0 from rfl, show (1000000 : Int32).toInt = 1000000 from rfl]
  by_cases hx : 0 ≤ x.toInt ∧ x.toInt ≤ 1000000
  · rw [if_pos hx]
    rw [if_pos ⟨q0, hx.1, hx.2⟩] at hr0
    refine ⟨fun u => absurd u (by decide), fun _ => s_X12_within l0 ?_⟩
    rw [show (0 : Int32).toInt = 0 from rfl, show (2 : Int32).toInt = 2 from rfl]
    by_cases hy : 0 ≤ y.toInt ∧ y.toInt ≤ 2
    · rw [if_pos hy]
      refine ⟨fun _ => s_find0 hL h ho (fun G1 l1 h1 f1 k1 => ?_), fun u => absurd u (by decide)⟩
      have hr := hQ G1 l1 h1 k1
      unfold rLooks at hr
      rw [if_pos ⟨q0, hx.1, hx.2⟩] at hr
      have c := h1.c
      clear hr0 h0 l0
      rcases num_cases x (n := 1000001) (by decide) with ⟨n, hn, en⟩ | hno
      · rw [en, nI_nat (by omega)] at hr
        rw [en, c.tq.1, shl_one (by omega), nSubR (by exact Nat.one_le_two_pow)]
        have pn : 2 ^ a.w.1 ≤ 2 ^ 30 := Nat.pow_le_pow_right (by decide) w30
        have hSn := ho.Sn
        have s30 := ho.S30
        have hf := ho.f'
        show EvI K mX12_looks 6 56 [(0, .ref 66), (1, .int (nI n)), (2, .int y), (3, .int (nI (2 ^ a.q.1 - 1))), (4, .int (nI 0)), (5, .int (oI none)), (6, .int (nI 1))] [] G1 Q
        let B : List Nat → Option Nat := fun l => bstO (jqF a.f a.P a.q.1) (tpr a.f a.P a.q.1) l none
        have Bb : ∀ l, (∀ s, s ∈ l → okJ a.f a.P a.q.1 s ∨ jqF a.f a.P a.q.1 s = false) → ∀ v, B l = some v → v ≤ 60 := by
          intro l
          have : ∀ (l : List Nat) (o : Option Nat), (∀ v, o = some v → v ≤ 60) → (∀ s, s ∈ l → okJ a.f a.P a.q.1 s ∨ jqF a.f a.P a.q.1 s = false) → ∀ v, bstO (jqF a.f a.P a.q.1) (tpr a.f a.P a.q.1) l o = some v → v ≤ 60 := by
            intro l
            induction l with
            | nil => intro o ho' _ v hv; exact ho' v hv
            | cons s l ih =>
              intro o ho' hl v hv
              refine ih _ (fun u hu => ?_) (fun t ht => hl t (List.mem_cons_of_mem _ ht)) v hv
              have hu : (if jqF a.f a.P a.q.1 s = true then oMin o (tpr a.f a.P a.q.1 s) else o) = some u := hu
              by_cases hq : jqF a.f a.P a.q.1 s = true
              · rw [if_pos hq] at hu
                rcases hl s (List.mem_cons_self) with w | w
                · have := (tpr_le hf ho.q4 ho.P1 w).2
                  cases o with
                  | none => cases hu; exact this
                  | some o' =>
                    have hu : (if tpr a.f a.P a.q.1 s ≤ o' then some (tpr a.f a.P a.q.1 s) else some o') = some u := hu
                    split at hu
                    · cases hu; exact this
                    · cases hu; exact ho' _ rfl
                · rw [w] at hq; cases hq
              · rw [if_neg hq] at hu; exact ho' u hu
          exact this l none (fun v hv => by cases hv)
        -- those that were seen so far
        have okl : ∀ (m : Nat), m ≤ 5 → ∀ s, s ∈ AL (tdF a.f) a.S m → okJ a.f a.P a.q.1 s ∨ jqF a.f a.P a.q.1 s = false := by
          intro m hm s hs
          cases hq : jqF a.f a.P a.q.1 s
          · exact Or.inr rfl
          · have : s ∈ jL a.f a.P a.q.1 a.S m := List.mem_filter.mpr ⟨hs, hq⟩
            exact Or.inl (jL_ok s30 hm this).1
        have okp : ∀ (m s : Nat), 1 ≤ m → m ≤ 5 → s ≤ 2 ^ 30 → ∀ u, u ∈ AL (tdF a.f) a.S (m - 1) ++ ls (isC (tdF a.f) a.S m) s → okJ a.f a.P a.q.1 u ∨ jqF a.f a.P a.q.1 u = false := by
          intro m s m1 m5 hs u hu
          obtain ⟨r, hr'⟩ := w_pre (td := tdF a.f) (S := a.S) (m := m) (s := s) (W := m) m1 (Nat.le_refl _) hs
          exact okl m m5 u (by rw [hr']; exact List.mem_append.mpr (Or.inl hu))
        -- the end of the walk
        have fin : ∀ L : List Nat, L = aL a.f a.S a.W → L.length ≤ n → EvI K mX12_looks 6 199 [(2, .int y), (4, .int (nI L.length)), (5, .int (oI (B L)))] [] G1 Q := by
          intro L eL hLn
          refine kX12_looks_199 l1 ?_
          rw [← eL] at hr
          refine ⟨fun u0 => ⟨fun u1 => ?_, fun u1 => ?_⟩, fun u0 => ?_⟩
          · rw [if_neg u0, if_neg u1, if_pos (i2e hy.1 hy.2 u0 u1), Nat.min_eq_right hLn] at hr
            exact hr
          · rw [if_neg u0, if_pos u1, if_neg (by omega)] at hr
            exact hr
          · rw [if_pos u0, List.take_of_length_le hLn] at hr
            exact hr
        -- found enough
        have enough : ∀ (m s : Nat), 1 ≤ m → m ≤ a.W → s < 2 ^ 30 → isC (tdF a.f) a.S m s = true → (AL (tdF a.f) a.S (m - 1) ++ ls (isC (tdF a.f) a.S m) s).length = n → (¬ y = 0 → (¬ y = 1 → Q (nI n) G1) ∧ (y = 1 → EvI K mX12_boundOf 2 0 [(0, .ref 66), (1, .int (nI m))] [] G1 (fun r6 G6 => Q r6 G6))) ∧ (y = 0 → Q (oI (B (AL (tdF a.f) a.S (m - 1) ++ ls (isC (tdF a.f) a.S m) s))) G1) := by
          intro m s m1 mW hs hc hlen
          obtain ⟨r, hr'⟩ := w_pre (td := tdF a.f) (S := a.S) (m := m) (s := s + 1) (W := a.W) m1 mW (by omega)
          rw [ls, if_pos hc, ← List.append_assoc] at hr'
          have hA : aL a.f a.S a.W = ((AL (tdF a.f) a.S (m - 1) ++ ls (isC (tdF a.f) a.S m) s) ++ [s]) ++ r := hr'
          have hlt : n < (aL a.f a.S a.W).length := by rw [hA, List.length_append, List.length_append, hlen, List.length_singleton]; omega
          refine ⟨fun u0 => ⟨fun u1 => ?_, fun u1 => s_boundOf l1 c f1 ho m1 (by omega) ?_⟩, fun u0 => ?_⟩
          · rw [if_neg u0, if_neg u1, if_pos (i2e hy.1 hy.2 u0 u1), Nat.min_eq_left (by omega)] at hr
            exact hr
          · rw [if_neg u0, if_pos u1, if_pos hlt] at hr
            have h2 : (aL a.f a.S (m - 1)).length ≤ n := by
              rw [← hlen, List.length_append]
              exact Nat.le_add_right _ _
            have h3 : n < (aL a.f a.S m).length := by
              obtain ⟨r2, hr2⟩ := w_pre (td := tdF a.f) (S := a.S) (m := m) (s := s + 1) (W := m) m1 (Nat.le_refl _) (by omega)
              rw [ls, if_pos hc, ← List.append_assoc] at hr2
              show n < (AL (tdF a.f) a.S m).length
              rw [hr2, List.length_append, List.length_append, hlen, List.length_singleton]; omega
            rw [szN_eq m1 h2 h3] at hr
            exact hr
          · rw [if_pos u0, hA, List.append_assoc, List.take_left' hlen] at hr
            exact hr
        -- all sets of one size
        have sets : ∀ (fuel s m : Nat), 2 ^ a.w.1 ≤ s + fuel → s < 2147483648 → s ≠ 0 → pc s = m → 1 ≤ m → m ≤ a.W → (AL (tdF a.f) a.S (m - 1) ++ ls (isC (tdF a.f) a.S m) s).length ≤ n → ((AL (tdF a.f) a.S m).length ≤ n → EvI K mX12_looks 6 56 [(0, .ref 66), (1, .int (nI n)), (2, .int y), (3, .int (nI (2 ^ a.q.1 - 1))), (4, .int (nI (AL (tdF a.f) a.S m).length)), (5, .int (if y = 0 then oI (B (AL (tdF a.f) a.S m)) else -1)), (6, .int (nI (m + 1)))] [] G1 Q) → EvI K mX12_looks 6 82 [(0, .ref 66), (1, .int (nI n)), (2, .int y), (3, .int (nI (2 ^ a.q.1 - 1))), (4, .int (nI (AL (tdF a.f) a.S (m - 1) ++ ls (isC (tdF a.f) a.S m) s).length)), (5, .int (if y = 0 then oI (B (AL (tdF a.f) a.S (m - 1) ++ ls (isC (tdF a.f) a.S m) s)) else -1)), (6, .int (nI m)), (7, .int (nI s))] [] G1 Q := by
          intro fuel
          have stop : ∀ (s m : Nat), 2 ^ a.w.1 ≤ s → s < 2147483648 → 1 ≤ m → m ≤ a.W → (AL (tdF a.f) a.S (m - 1) ++ ls (isC (tdF a.f) a.S m) s).length ≤ n → ((AL (tdF a.f) a.S m).length ≤ n → EvI K mX12_looks 6 56 [(0, .ref 66), (1, .int (nI n)), (2, .int y), (3, .int (nI (2 ^ a.q.1 - 1))), (4, .int (nI (AL (tdF a.f) a.S m).length)), (5, .int (if y = 0 then oI (B (AL (tdF a.f) a.S m)) else -1)), (6, .int (nI (m + 1)))] [] G1 Q) → EvI K mX12_looks 6 56 [(0, .ref 66), (1, .int (nI n)), (2, .int y), (3, .int (nI (2 ^ a.q.1 - 1))), (4, .int (nI (AL (tdF a.f) a.S (m - 1) ++ ls (isC (tdF a.f) a.S m) s).length)), (5, .int (if y = 0 then oI (B (AL (tdF a.f) a.S (m - 1) ++ ls (isC (tdF a.f) a.S m) s)) else -1)), (6, .int (nI m + 1))] [] G1 Q := by
            intro s m hs hs31 m1 mW hlen hgo
            have eA : AL (tdF a.f) a.S (m - 1) ++ ls (isC (tdF a.f) a.S m) s = AL (tdF a.f) a.S m := by
              rw [w_end hSn w30 hs]
              conv => rhs; rw [show m = (m - 1) + 1 by omega, AL, show m - 1 + 1 = m by omega]
            rw [eA] at hlen ⊢
            rw [show nI m + 1 = nI (m + 1) from nAdd]
            exact hgo hlen
          induction fuel with
          | zero =>
            intro s m hfu hs31 hs0 hpc m1 mW hlen hgo
            refine kX12_looks_82 l1 ?_
            rw [c.ro.1, shl_one (by omega), nLe (by omega) (by omega)]
            exact ⟨fun u => stop s m u hs31 m1 mW hlen hgo, fun u => by omega⟩
          | succ fuel ih =>
            intro s m hfu hs31 hs0 hpc m1 mW hlen hgo
            refine kX12_looks_82 l1 ?_
            rw [c.ro.1, shl_one (by omega), nLe (by omega) (by omega), f1.se]
            refine ⟨fun u => stop s m u hs31 m1 mW hlen hgo, fun u => ?_⟩
            have hs30 : s < 1073741824 := by omega
            -- one set more
            have next : (AL (tdF a.f) a.S (m - 1) ++ ls (isC (tdF a.f) a.S m) (s + 1)).length ≤ n → EvI K mX12_looks 6 183 [(0, .ref 66), (1, .int (nI n)), (2, .int y), (3, .int (nI (2 ^ a.q.1 - 1))), (4, .int (nI (AL (tdF a.f) a.S (m - 1) ++ ls (isC (tdF a.f) a.S m) (s + 1)).length)), (5, .int (if y = 0 then oI (B (AL (tdF a.f) a.S (m - 1) ++ ls (isC (tdF a.f) a.S m) (s + 1))) else -1)), (6, .int (nI m)), (7, .int (nI s))] [] G1 Q := by
              intro hl
              refine kX12_looks_183 l1 (s_nextOf hs0 (by omega) l1 (fun t t1 t2 t3 t4 => ?_))
              have e1 := w_next (td := tdF a.f) (S := a.S) (m := m) t1 (fun v v1 v2 => by rw [← hpc]; exact t4 v v1 v2)
              rw [← e1] at hl ⊢
              exact ih t m (by omega) t2 (by omega) (by rw [t3, hpc]) m1 mW hl hgo
            have skip : isC (tdF a.f) a.S m s = false → EvI K mX12_looks 6 183 [(0, .ref 66), (1, .int (nI n)), (2, .int y), (3, .int (nI (2 ^ a.q.1 - 1))), (4, .int (nI (AL (tdF a.f) a.S (m - 1) ++ ls (isC (tdF a.f) a.S m) s).length)), (5, .int (if y = 0 then oI (B (AL (tdF a.f) a.S (m - 1) ++ ls (isC (tdF a.f) a.S m) s)) else -1)), (6, .int (nI m)), (7, .int (nI s))] [] G1 Q := by
              intro hno
              have e1 : ls (isC (tdF a.f) a.S m) (s + 1) = ls (isC (tdF a.f) a.S m) s := by rw [ls, if_neg (by rw [hno]; decide)]
              rw [← e1] at hlen ⊢
              exact next hlen
            rw [w_in hs30 s30]
            refine ⟨fun u2 => skip (isC_no (fun v => u2 v.1)), fun u2 => s_hang l1 f1.ti hf hs30 hs0 ?_⟩
            by_cases hcn : dB (Cn (tdF a.f) s) = true
            · rw [if_pos hcn]
              refine ⟨fun v => absurd v (by decide), fun _ => ?_⟩
              have hc : isC (tdF a.f) a.S m s = true := dB_iff.mpr ⟨u2, hpc, dB_iff.mp hcn⟩
              have e1 : ls (isC (tdF a.f) a.S m) (s + 1) = ls (isC (tdF a.f) a.S m) s ++ [s] := by rw [ls, if_pos hc]
              rw [nEq (by omega) (by omega)]
              refine ⟨fun v => ?_, fun v => ?_⟩
              · have hl2 : (AL (tdF a.f) a.S (m - 1) ++ ls (isC (tdF a.f) a.S m) (s + 1)).length = (AL (tdF a.f) a.S (m - 1) ++ ls (isC (tdF a.f) a.S m) s).length + 1 := by rw [e1, ← List.append_assoc, List.length_append (bs := [s])]; rfl
                rw [show nI (AL (tdF a.f) a.S (m - 1) ++ ls (isC (tdF a.f) a.S m) s).length + 1 = nI (AL (tdF a.f) a.S (m - 1) ++ ls (isC (tdF a.f) a.S m) (s + 1)).length by rw [hl2]; exact nAdd]
                have nx := next (by omega)
                refine ⟨fun y0 => ?_, fun y0 => s_isJoining l1 f1.ti hf f1.ht ho.q4 (by omega) hs30 ?_⟩
                · rw [if_neg y0] at nx ⊢
                  exact nx
                · rw [if_pos y0] at nx ⊢
                  have eB : B (AL (tdF a.f) a.S (m - 1) ++ ls (isC (tdF a.f) a.S m) (s + 1)) = if jqF a.f a.P a.q.1 s = true then oMin (B (AL (tdF a.f) a.S (m - 1) ++ ls (isC (tdF a.f) a.S m) s)) (tpr a.f a.P a.q.1 s) else B (AL (tdF a.f) a.S (m - 1) ++ ls (isC (tdF a.f) a.S m) s) := by
                    rw [e1, ← List.append_assoc]; exact bstO_snoc
                  rw [eB] at nx
                  by_cases hq : jqF a.f a.P a.q.1 s = true
                  · rw [if_pos hq]
                    rw [if_pos hq] at nx
                    refine ⟨fun w => absurd w (by decide), fun _ => ?_⟩
                    have hjq := dB_iff.mp hq
                    have hsh : ∀ k, k < a.q.1 → ∃ r, s.testBit r = true ∧ a.P k r ≠ 9 := (all_iff (by omega)).mp hjq.1
                    have hcn' := dB_iff.mp hcn
                    have oj : okJ a.f a.P a.q.1 s := ⟨hs30, hs0, by omega, hcn', hsh⟩
                    have tl := tpr_le hf ho.q4 ho.P1 oj
                    refine s_tiesOf l1 f1.ti hf c.ro.1 w30 hs30 (fun r hr' => hSn r (u2 r hr')) hs0 (by omega) hcn' (s_termsOf l1 f1.ht c.tq.1 c.ro.1 w30 ho.q4 ho.P1 ho.P2 hs30 hsh ?_)
                    rw [show nI (ts a.f s) + nI (trm a.P a.q.1 s) = nI (tpr a.f a.P a.q.1 s) from nAdd]
                    refine s_leastO l1 (fun v hv => ?_) (by omega) nx
                    have := Bb _ (okp m s m1 (by omega) (by omega)) v hv
                    omega
                  · rw [if_neg hq]
                    rw [if_neg hq] at nx
                    exact ⟨fun _ => nx, fun w => absurd rfl w⟩
              · obtain ⟨g1, g2⟩ := enough m s m1 mW (by omega) hc v
                rw [v]
                refine ⟨g1, fun y0 => ?_⟩
                rw [if_pos y0]; exact g2 y0
            · rw [if_neg hcn]
              exact ⟨fun _ => skip (isC_no (fun v => hcn (dB_iff.mpr v.2.2))), fun v => absurd rfl v⟩
        have sizes : ∀ (d m : Nat), m + d = a.W + 1 → 1 ≤ m → (AL (tdF a.f) a.S (m - 1)).length ≤ n → EvI K mX12_looks 6 56 [(0, .ref 66), (1, .int (nI n)), (2, .int y), (3, .int (nI (2 ^ a.q.1 - 1))), (4, .int (nI (AL (tdF a.f) a.S (m - 1)).length)), (5, .int (if y = 0 then oI (B (AL (tdF a.f) a.S (m - 1))) else -1)), (6, .int (nI m))] [] G1 Q := by
          intro d
          have stop : ∀ m, AL (tdF a.f) a.S (m - 1) = aL a.f a.S a.W → (AL (tdF a.f) a.S (m - 1)).length ≤ n → EvI K mX12_looks 6 199 [(2, .int y), (4, .int (nI (AL (tdF a.f) a.S (m - 1)).length)), (5, .int (if y = 0 then oI (B (AL (tdF a.f) a.S (m - 1))) else -1))] [] G1 Q := by
            intro m hm hl
            have := fin _ hm hl
            by_cases y0 : y = 0
            · rw [if_pos y0]; exact this
            · rw [if_neg y0]
              refine kX12_looks_199 l1 ?_
              refine ⟨fun u0 => ⟨fun u1 => ?_, fun u1 => ?_⟩, fun u0 => absurd u0 y0⟩
              · rw [if_neg u0, if_neg u1, if_pos (i2e hy.1 hy.2 u0 u1), ← hm, Nat.min_eq_right hl] at hr
                exact hr
              · rw [if_neg u0, if_pos u1, ← hm, if_neg (by omega)] at hr
                exact hr
          induction d with
          | zero =>
            intro m hd m1 hl
            refine kX12_looks_56 l1 ?_
            rw [c.wi, nLt (by omega) (by omega)]
            exact ⟨fun _ => stop m (by rw [show m - 1 = a.W by omega]; rfl) hl, fun u => by omega⟩
          | succ d ih =>
            intro m hd m1 hl
            refine kX12_looks_56 l1 ?_
            rw [c.wi, c.ro.1, nLt (by omega) (by omega), nLt (by omega) (by omega)]
            refine ⟨fun u => by omega, fun _ => ⟨fun u => stop m ?_ hl, fun u => ?_⟩⟩
            · have := w_more (td := tdF a.f) s30 hSn w30 u (a.W - (m - 1))
              rw [show m - 1 + (a.W - (m - 1)) = a.W by omega] at this
              exact this.symm
            · have p2 : 2 ^ 1 ≤ 2 ^ m := Nat.pow_le_pow_right (by decide) m1
              have p3 : 2 ^ m ≤ 2 ^ 5 := Nat.pow_le_pow_right (by decide) (by omega)
              rw [shl_one (by omega), nSubR (by exact Nat.one_le_two_pow)]
              have e0 := w_first (td := tdF a.f) (S := a.S) (m := m) (by omega)
              have := sets (2 ^ a.w.1) (2 ^ m - 1) m (by omega) (by omega) (by omega) (pc_ones (by omega)) m1 (by omega) (by rw [e0, List.append_nil]; exact hl) (fun hl2 => by
                have := ih (m + 1) (by omega) (by omega) (by rw [show m + 1 - 1 = m by omega]; exact hl2)
                rw [show m + 1 - 1 = m by omega] at this
                exact this)
              rw [e0, List.append_nil] at this
              exact this
        have := sizes a.W 1 (by omega) (Nat.le_refl _) (Nat.zero_le _)
        have e5 : (if y = 0 then oI (B (AL (tdF a.f) a.S (1 - 1))) else -1) = oI none := by
          split <;> rfl
        rw [e5] at this
        exact this
      · exact absurd ⟨by omega, by omega⟩ hno
    · rw [if_neg hy]
      rw [if_neg (fun u => hy (by rw [u]; decide)), if_neg (fun u => hy (by rw [u]; decide)), if_neg (fun u => hy (by rw [u]; decide))] at hr0
      exact ⟨fun u => absurd rfl u, fun _ => hr0⟩
  · rw [if_neg hx]
    rw [if_neg (fun u => hx u.2)] at hr0
    exact ⟨fun _ => hr0, fun u => absurd rfl u⟩
end MLOOKS2

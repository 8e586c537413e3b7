/-! parts: the class' call -/
def XP (a : AS) (G : St) (o : Option Nat) : Prop := match o with
  | none => sL G 38 0 = lN 0
  | some w => sL G 38 0 = lN w ∧ sI G 38 1 = nI (mrW a w) ∧ gw w
def sP : Nat → Nat → Prop := fun i _ => i = 38
section PARTS2
variable {K : KT} {G : St} {a : AS} {e : Nat}
theorem OkA.mr (ho : OkA e a) (v : Nat) : nW a v ≤ a.J.length ∧ mrW a v ≤ 174436 := by
  have h1 : nW a v ≤ a.J.length := List.length_filter_le _ _
  have h2 := ho.Jl
  refine ⟨h1, ?_⟩
  unfold mrW
  rw [Nat.max_def]
  split <;> omega
theorem flW_lt {v : Nat} (h : gw v) : flW v < 282429536481 := by
  have h8 := wl_le v
  have h1 : v < 27 ^ wl v := wl_yes (show v < 27 ^ 8 from h.1)
  unfold flW
  have e : (27 : Nat) ^ 8 = 27 ^ wl v * 27 ^ (8 - wl v) := by rw [← Nat.pow_add]; congr 1; omega
  have p : 0 < 27 ^ (8 - wl v) := Nat.pow_pos (by decide)
  have : v * 27 ^ (8 - wl v) < 27 ^ wl v * 27 ^ (8 - wl v) := Nat.mul_lt_mul_of_pos_right h1 p
  rw [← e] at this
  exact this
theorem s_greaterPart {Q : Int32 → St → Prop} {w v : Nat} (hL : Lay G.2.2) (hX : XOr G a.f a.P a.q.1 a.J) (ho : OkA e a) (hw : w < 1073741824) (hwv : ∀ s, s ∈ a.J → (s &&& w ≠ 0 ↔ s &&& mkW a a.S v ≠ 0)) (hQ : Q (nI (mrW a v)) G) : EvI K mX6_greaterPart 2 0 [(0, .ref 18), (1, .int (nI w))] [] G Q := by
  have jl := ho.Jl
  have hl := ho.Ol
  have tot : (a.O.filter (fun s => s &&& mkW a a.S v != 0)).length = nW a v := ho.oct _
  have key : ∀ (m i : Nat), i + m = a.J.length → EvI K mX6_greaterPart 2 4 [(0, .ref 18), (1, .int (nI w)), (2, .int (nI ((a.O.take i).filter (fun s => s &&& mkW a a.S v != 0)).length)), (3, .int (nI i))] [] G Q := by
    intro m
    induction m with
    | zero =>
      intro i hm
      refine kX6_greaterPart_4 hL ?_
      have h1 := (ho.mr v).1
      rw [hX.1, show i = a.J.length by omega, List.take_of_length_le (by omega), tot]
      refine ⟨fun _ => ?_, fun z => absurd (Int32.le_refl _) z⟩
      rw [show nI a.J.length - nI (nW a v) = nI (a.J.length - nW a v) from nSub h1]
      exact s_J9_max (by omega) (by omega) hL hQ
    | succ m ih =>
      intro i hm
      have hs := getD_lt (l := a.O) (q := i) (by omega)
      have hm' := ho.Om hs
      have s30 := (ho.oJ.2 _ hm').1
      have hv := hwv _ hm'
      have lt : ((a.O.take i).filter (fun s => s &&& mkW a a.S v != 0)).length ≤ i := Nat.le_trans (List.length_filter_le _ _) (by rw [List.length_take]; omega)
      have go : ∀ d, d = (if a.O.getD i 0 &&& mkW a a.S v != 0 then 1 else 0) → EvI K mX6_greaterPart 2 28 [(0, .ref 18), (1, .int (nI w)), (3, .int (nI i))] [.int (nI d), .int (nI ((a.O.take i).filter (fun s => s &&& mkW a a.S v != 0)).length)] G Q := by
        intro d hd
        refine kX6_greaterPart_28 hL ?_
        have := ih (i + 1) (by omega)
        rw [take_filter _ hs, List.length_append] at this
        rw [show nI i + 1 = nI (i + 1) from nAdd, show nI ((a.O.take i).filter (fun s => s &&& mkW a a.S v != 0)).length + nI d = nI (((a.O.take i).filter (fun s => s &&& mkW a a.S v != 0)).length + d) from nAdd]
        have e1 : (if (a.O.getD i 0 &&& mkW a a.S v != 0) = true then [a.O.getD i 0] else []).length = d := by
          rw [hd]; split <;> rfl
        rw [e1] at this
        exact this
      refine kX6_greaterPart_4 hL ?_
      rw [hX.1]
      refine ⟨fun z => absurd z (by rw [nLe (by omega) (by omega)]; omega), fun _ => s_X6_setOf hL hX ho.oJ hs hm' ?_⟩
      have al' : a.O.getD i 0 &&& w ≤ a.O.getD i 0 := Nat.and_le_left
      rw [fa_and, show (0 : Int32) = nI 0 from rfl, nEq (by omega) (by decide)]
      refine ⟨fun z => go 0 ?_, fun z => go 1 ?_⟩
      · have : ¬ a.O.getD i 0 &&& mkW a a.S v ≠ 0 := fun y => (hv.mpr y) z
        rw [if_neg (by simpa using this)]
      · have := hv.mp z
        rw [if_pos (by simpa using this)]
  exact kX6_greaterPart_0 hL (key a.J.length 0 (by omega))
theorem x_find {Q : St → Prop} (h : XI e sen G a) (f18 : sI G 1 18 ≠ 0) (ho : OkA e a) (hQ : ∀ G' o, Kq sP G G' → XP a G' o → opW a (cdW a) o → Q G') : EvV K mX3_find 4 0 [(0, .ref 38), (1, .ref (sR G 1 8)), (2, .ref (sR G 1 10)), (3, .ref 18)] [] G Q := by
  have hL := h.lay
  have hh := lay_h hL
  have ht := lay_t hL
  have hH : sR G 1 8 = 39 ∨ sR G 1 8 = 49 := by omega
  have hT : sR G 1 10 = 59 ∨ sR G 1 10 = 62 := by omega
  obtain ⟨q0, f16, f15, sd⟩ := h.fs f18
  have w30 := ho.w30
  have c := h.c
  have hXo : XOr G a.f a.P a.q.1 a.J := by rw [jl_t q0]; exact sd.sr.2.2.2.2.2.2
  have g10 := (lay_g hL (i := 18) (k := 10) (t := 1) (f := 27) (by decide)).2.1
  generalize hH' : sR G 1 8 = H at *
  generalize hT' : sR G 1 10 = TT at *
  have stay : ∀ G1, Kq sP G G1 → Lay G1.2.2 ∧ XTb G1 H a.b ∧ XRw G1 H a.b a.w ∧ XTq G1 TT a.q ∧ XOr G1 a.f a.P a.q.1 a.J := fun G1 k1 => ⟨k1.lay hL, (hH' ▸ c.tb).kq k1 (fun i k z => by unfold sP at z; omega), (hH' ▸ c.ro).kq k1 (fun i k z => by unfold sP at z; omega), (hT' ▸ c.tq).kq k1 (fun i k z => by unfold sP at z; omega), ⟨(k1.I (by unfold sP; omega)).trans hXo.1, by rw [k1.R, show sN G1 = sN G from congrArg (fun x => x.2.1) k1.1]; exact hXo.2.1, fun k s hs => by rw [k1.R, k1.L (by unfold sP; omega)]; exact hXo.2.2 k s hs⟩⟩
  have k0 : Kq sP G (uI (uL G 38 0 0) 38 1 0) := (kq_L (S := sP) rfl).sI rfl
  refine kX3_find_0 hL hH hT (s_rowsOfAll (k0.lay hL) (stay _ k0).2.2.2.2 ho (fun R hR hRb => ?_))
  have RS : ∀ r, R.testBit r = true → a.S.testBit r = true ∧ r < a.w.1 := fun r hr => by
    obtain ⟨s, h1, h2⟩ := (hRb r).mp hr
    have := (ho.J1 h1).2.1 r h2
    exact ⟨this, ho.Sn r this⟩
  -- words of the rows before
  let D : Nat → Nat → Nat → Prop := fun r c v => ∃ r' c', (r' < r ∨ r' = r ∧ c' < c) ∧ c' < 4 ∧ R.testBit r' = true ∧ v = wdA a.b a.w r' c' ∧ v ≠ 0 ∧ plB a v = false
  -- one word weighed
  have weigh : ∀ (r cc v : Nat) (o : Option Nat) (G1 : St), r < a.w.1 → cc < 4 → R.testBit r = true → v = wdA a.b a.w r cc → v ≠ 0 → plB a v = false → Kq sP G G1 → XP a G1 o → opW a (D r cc) o → (∀ G2 o', Kq sP G G2 → XP a G2 o' → opW a (D r (cc + 1)) o' → EvV K mX3_find 4 85 [(0, .ref 38), (1, .ref H), (2, .ref TT), (3, .ref 18), (4, .int (nI R)), (5, .int (nI r)), (6, .int (nI cc))] [] G2 Q) → EvV K mX3_weigh 3 0 [(0, .ref 38), (1, .ref H), (2, .ref 18), (3, .long (lN v)), (5, .int (nI r)), (6, .int (nI R))] [] G1 (fun G3 => EvV K mX3_find 4 85 [(0, .ref 38), (1, .ref H), (2, .ref TT), (3, .ref 18), (4, .int (nI R)), (5, .int (nI r)), (6, .int (nI cc))] [] G3 Q) := by
    intro r cc v o G1 hr hcc hrR ev v0 vp k1 xp op hgo
    obtain ⟨l1, b1, r1, q1, o1⟩ := stay G1 k1
    have gv : gw v := by rw [ev]; exact ho.wg hr (by rw [← ev]; exact v0)
    have hsr : hsR a r v = true := anyB_iff.mpr ⟨cc, hcc, by rw [ev]; simp⟩
    have mb : ∀ i n, (msk (fun r => R.testBit r && hsR a r v) n).testBit i = (decide (i < n) && (R.testBit i && hsR a i v)) := fun i n => msk_bit _ _ _
    have loop : ∀ (m i : Nat), i + m = a.w.1 → EvV K mX3_weigh 3 6 [(0, .ref 38), (1, .ref H), (2, .ref 18), (3, .long (lN v)), (5, .int (nI r)), (6, .int (nI R)), (7, .int (nI (msk (fun r => R.testBit r && hsR a r v) i))), (8, .int (nI i))] [] G1 (fun G3 => EvV K mX3_find 4 85 [(0, .ref 38), (1, .ref H), (2, .ref TT), (3, .ref 18), (4, .int (nI R)), (5, .int (nI r)), (6, .int (nI cc))] [] G3 Q) := by
      intro m
      induction m with
      | zero =>
        intro i hm
        have ei : i = a.w.1 := by omega
        subst ei
        have ml := msk_lt (fun r => R.testBit r && hsR a r v) a.w.1
        have mp : 2 ^ a.w.1 ≤ 2 ^ 30 := Nat.pow_le_pow_right (by decide) w30
        generalize hM : msk (fun r => R.testBit r && hsR a r v) a.w.1 = M at *
        have Mb : ∀ i, M.testBit i = true ↔ R.testBit i = true ∧ hsR a i v = true := fun i => by
          rw [← hM, mb]
          simp only [Bool.and_eq_true, decide_eq_true_eq]
          exact ⟨fun z => z.2, fun z => ⟨(RS i z.1).2, z⟩⟩
        have M0 : M ≠ 0 := fun z => by
          have := (Mb r).mpr ⟨hrR, hsr⟩
          rw [z, Nat.zero_testBit] at this; cases this
        have ly := lo_yes M0 (show M < 2 ^ 32 by omega)
        refine kX3_weigh_6 l1 hH ?_
        rw [r1.1]
        refine ⟨fun _ => s_ntz M0 (by omega) l1 ?_, fun z => absurd (Int32.le_refl _) z⟩
        rw [nEq (by omega) (by omega)]
        have hD : ∀ x, D r (cc + 1) x ↔ D r cc x ∨ x = v := by
          intro x
          constructor
          · rintro ⟨r', c', p1, p2, p3, p4, p5, p6⟩
            by_cases z : r' = r ∧ c' = cc
            · exact Or.inr (by rw [p4, z.1, z.2, ← ev])
            · exact Or.inl ⟨r', c', by omega, p2, p3, p4, p5, p6⟩
          · rintro (⟨r', c', p1, p2, p3, p4, p5, p6⟩ | z)
            · exact ⟨r', c', by omega, p2, p3, p4, p5, p6⟩
            · exact ⟨r, cc, by omega, hcc, hrR, by rw [z, ev], by rw [z]; exact v0, by rw [z]; exact vp⟩
        refine ⟨fun z => ?_, fun z => hgo G1 o k1 xp ?_⟩
        · -- the first row that has it
          have hwv : ∀ s, s ∈ a.J → (s &&& M ≠ 0 ↔ s &&& mkW a a.S v ≠ 0) := by
            intro s hs
            have nz : ∀ x y : Nat, x &&& y ≠ 0 ↔ ∃ i, x.testBit i = true ∧ y.testBit i = true := by
              intro x y
              constructor
              · intro h0
                apply Classical.byContradiction
                intro u
                apply h0
                apply Nat.eq_of_testBit_eq
                intro i
                rw [Nat.zero_testBit, Nat.testBit_and]
                cases q1 : x.testBit i
                · rfl
                · cases q2 : y.testBit i
                  · rfl
                  · exact absurd ⟨i, q1, q2⟩ u
              · rintro ⟨i, h1, h2⟩ h0
                have : (x &&& y).testBit i = true := by rw [Nat.testBit_and, h1, h2]; rfl
                rw [h0, Nat.zero_testBit] at this; cases this
            rw [nz, nz]
            constructor
            · rintro ⟨i, h1, h2⟩
              obtain ⟨u1, u2⟩ := (Mb i).mp h2
              obtain ⟨u3, u4⟩ := RS i u1
              refine ⟨i, h1, ?_⟩
              unfold mkW
              rw [msk_bit]; simp [u3, u4, u2]
            · rintro ⟨i, h1, h2⟩
              unfold mkW at h2
              rw [msk_bit] at h2
              simp only [Bool.and_eq_true, decide_eq_true_eq] at h2
              exact ⟨i, h1, (Mb i).mpr ⟨(hRb i).mpr ⟨s, hs, h1⟩, h2.2.2⟩⟩
          refine s_greaterPart (v := v) l1 o1 ho (by omega) hwv ?_
          have mr1 := (ho.mr v).2
          have take1 : beW a o v → EvV K mX3_weigh 3 116 [(0, .ref 38), (3, .long (lN v)), (8, .int (nI (mrW a v)))] [.int 1] G1 (fun G3 => EvV K mX3_find 4 85 [(0, .ref 38), (1, .ref H), (2, .ref TT), (3, .ref 18), (4, .int (nI R)), (5, .int (nI r)), (6, .int (nI cc))] [] G3 Q) := by
            intro hb
            refine kX3_weigh_116 l1 ⟨fun y => absurd y (by decide), fun _ => hgo _ (some v) ((k1.sL rfl).sI rfl) ⟨?_, ?_, gv⟩ (opW_new op hD hb)⟩
            · rw [gLI, gL, if_pos ⟨rfl, rfl⟩]
            · rw [gI, if_pos ⟨rfl, rfl⟩]
          have take0 : ¬ beW a o v → EvV K mX3_weigh 3 115 [(0, .ref 38), (3, .long (lN v)), (8, .int (nI (mrW a v)))] [] G1 (fun G3 => EvV K mX3_find 4 85 [(0, .ref 38), (1, .ref H), (2, .ref TT), (3, .ref 18), (4, .int (nI R)), (5, .int (nI r)), (6, .int (nI cc))] [] G3 Q) := fun hb => kX3_weigh_115 l1 (kX3_weigh_116 l1 ⟨fun _ => hgo G1 o k1 xp (opW_old op hD hb), fun y => absurd rfl y⟩)
          cases o with
          | none =>
            have xp' : sL G1 38 0 = lN 0 := xp
            exact ⟨fun _ => take1 trivial, fun y => absurd xp' y⟩
          | some w =>
            obtain ⟨x1, x2, x3⟩ := xp
            have mr2 := (ho.mr w).2
            have fw := flW_lt x3
            have fv := flW_lt gv
            have w0 : w ≠ 0 := fun y => by have := x3.2; rw [y] at this; exact this rfl
            rw [x1, x2, show (0 : Int64) = lN 0 from rfl, lEq (by have := x3.1; omega) (by decide), nLt (by omega) (by omega), nEq (by omega) (by omega)]
            refine ⟨fun y => absurd y w0, fun _ => ⟨fun y => take1 (Or.inl y), fun y => ⟨fun y2 => take0 (fun u => by
              have u : mrW a v < mrW a w ∨ mrW a v = mrW a w ∧ flW v < flW w := u
              omega), fun y2 => s_X10_orderOf (show v < 27 ^ 8 from gv.1) l1 ?_⟩⟩⟩
            rw [x1]
            refine s_X10_orderOf (show w < 27 ^ 8 from x3.1) l1 ?_
            have e1 : lN (v * 27 ^ (8 - wl v)) < lN (w * 27 ^ (8 - wl w)) ↔ flW v < flW w := pk_lLT (show flW v < 2 ^ 63 by omega) (show flW w < 2 ^ 63 by omega)
            rw [e1]
            exact ⟨fun u => take0 (fun b => by
              have b : mrW a v < mrW a w ∨ mrW a v = mrW a w ∧ flW v < flW w := b
              omega), fun u => take1 (Or.inr ⟨y2, u⟩)⟩
        · -- an earlier row has it
          refine opW_iff op (fun x => ?_)
          rw [hD x]
          refine ⟨fun u => ?_, Or.inl⟩
          rcases u with u | u
          · exact u
          · have hlt : lo M < r := by
              rcases Nat.lt_trichotomy (lo M) r with y | y | y
              · exact y
              · exact absurd y z
              · have := ly.2.2 r y
                rw [(Mb r).mpr ⟨hrR, hsr⟩] at this; cases this
            obtain ⟨u1, u2⟩ := (Mb _).mp ly.2.1
            unfold hsR at u2
            obtain ⟨c', c1, c2⟩ := anyB_iff.mp u2
            have c2 : wdA a.b a.w (lo M) c' = v := by simpa using c2
            rw [u]
            exact ⟨lo M, c', Or.inl hlt, c1, u1, c2.symm, v0, vp⟩
      | succ m ih =>
        intro i hm
        have ml := msk_lt (fun r => R.testBit r && hsR a r v) i
        have mp : 2 ^ i ≤ 2 ^ 29 := Nat.pow_le_pow_right (by decide) (by omega)
        have go : ∀ M', M' = msk (fun r => R.testBit r && hsR a r v) (i + 1) → EvV K mX3_weigh 3 44 [(0, .ref 38), (1, .ref H), (2, .ref 18), (3, .long (lN v)), (5, .int (nI r)), (6, .int (nI R)), (7, .int (nI M')), (8, .int (nI i))] [] G1 (fun G3 => EvV K mX3_find 4 85 [(0, .ref 38), (1, .ref H), (2, .ref TT), (3, .ref 18), (4, .int (nI R)), (5, .int (nI r)), (6, .int (nI cc))] [] G3 Q) := by
          intro M' hM'
          refine kX3_weigh_44 l1 hH ?_
          rw [show nI i + 1 = nI (i + 1) from nAdd, hM']
          exact ih (i + 1) (by omega)
        have same : (R.testBit i && hsR a i v) = false → msk (fun r => R.testBit r && hsR a r v) i = msk (fun r => R.testBit r && hsR a r v) (i + 1) := by
          intro z
          apply Nat.eq_of_testBit_eq
          intro j
          rw [mb, mb]
          by_cases y : j = i
          · rw [y, z]; simp
          · have : decide (j < i) = decide (j < i + 1) := by simp; omega
            rw [this]
        refine kX3_weigh_6 l1 hH ?_
        rw [r1.1, bit_at (by omega) (by omega)]
        refine ⟨fun z => absurd z (by rw [nLe (by omega) (by omega)]; omega), fun _ => ?_⟩
        by_cases b : R.testBit i = true
        · rw [if_pos b]
          refine ⟨fun z => absurd z (by decide), fun _ => s_hasW l1 hH b1 r1 ho (by omega) gv.1 ?_⟩
          by_cases hb : hsR a i v = true
          · rw [if_pos hb]
            refine ⟨fun z => absurd z (by decide), fun _ => ?_⟩
            rw [shl_one (by omega), fa_or]
            refine go _ ?_
            apply Nat.eq_of_testBit_eq
            intro j
            rw [Nat.testBit_or, mb, mb, Nat.testBit_two_pow]
            by_cases y : j = i
            · rw [y, b, hb]; simp
            · have e1 : decide (i = j) = false := by simp; omega
              have e2 : decide (j < i + 1) = decide (j < i) := by simp; omega
              rw [e1, e2, Bool.or_false]
          · rw [if_neg hb]
            refine ⟨fun _ => go _ (same (by rw [b]; simpa using hb)), fun z => absurd rfl z⟩
        · rw [if_neg b]
          exact ⟨fun _ => go _ (same (by simp [b])), fun z => absurd rfl z⟩
    exact kX3_weigh_0 l1 hH (loop a.w.1 0 (by omega))
  have rows : ∀ (m r : Nat) (o : Option Nat) (G1 : St), r + m = a.w.1 → Kq sP G G1 → XP a G1 o → opW a (D r 0) o → EvV K mX3_find 4 19 [(0, .ref 38), (1, .ref H), (2, .ref TT), (3, .ref 18), (4, .int (nI R)), (5, .int (nI r))] [] G1 Q := by
    intro m
    induction m with
    | zero =>
      intro r o G1 hm k1 xp op
      obtain ⟨l1, b1, r1, q1, o1⟩ := stay G1 k1
      refine kX3_find_19 l1 hH hT ?_
      rw [r1.1, show r = a.w.1 by omega]
      refine ⟨fun _ => hQ G1 o k1 xp (opW_iff op (fun v => ?_)), fun z => absurd (Int32.le_refl _) z⟩
      constructor
      · rintro ⟨v0, vp, vn⟩
        obtain ⟨s, r', h1, h2, h3⟩ := ho.nWp.mp vn
        unfold hsR at h3
        obtain ⟨c', c1, c2⟩ := anyB_iff.mp h3
        have c2 : wdA a.b a.w r' c' = v := by simpa using c2
        have hR' := (hRb r').mpr ⟨s, h1, h2⟩
        exact ⟨r', c', Or.inl (by have := (RS r' hR').2; omega), c1, hR', c2.symm, v0, vp⟩
      · rintro ⟨r', c', -, c1, hR', ev, v0, vp⟩
        refine ⟨v0, vp, ho.nWp.mpr ?_⟩
        obtain ⟨s, h1, h2⟩ := (hRb r').mp hR'
        exact ⟨s, r', h1, h2, anyB_iff.mpr ⟨c', c1, by rw [ev]; simp⟩⟩
    | succ m ih =>
      intro r o G1 hm k1 xp op
      obtain ⟨l1, b1, r1, q1, o1⟩ := stay G1 k1
      have hr : r < a.w.1 := by omega
      have next : ∀ G2 o', Kq sP G G2 → XP a G2 o' → opW a (D (r + 1) 0) o' → EvV K mX3_find 4 91 [(0, .ref 38), (1, .ref H), (2, .ref TT), (3, .ref 18), (4, .int (nI R)), (5, .int (nI r))] [] G2 Q := by
        intro G2 o' k2 x2 p2
        refine kX3_find_91 (k2.lay hL) hH hT ?_
        rw [show nI r + 1 = nI (r + 1) from nAdd]
        exact ih (r + 1) o' G2 (by omega) k2 x2 p2
      have cols : ∀ (n cc : Nat) (o : Option Nat) (G2 : St), cc + n = 4 → Kq sP G G2 → XP a G2 o → opW a (D r cc) o → EvV K mX3_find 4 31 [(0, .ref 38), (1, .ref H), (2, .ref TT), (3, .ref 18), (4, .int (nI R)), (5, .int (nI r)), (6, .int (nI cc))] [] G2 Q := by
        intro n
        induction n with
        | zero =>
          intro cc o G2 hn k2 x2 p2
          have ec : cc = 4 := by omega
          subst ec
          refine kX3_find_31 (k2.lay hL) hH hT ⟨fun _ => next G2 o k2 x2 (opW_iff p2 (fun x => ?_)), fun z => absurd (by decide) z⟩
          constructor
          · rintro ⟨r', c', p1, p2, p3⟩; exact ⟨r', c', by omega, p2, p3⟩
          · rintro ⟨r', c', p1, p2, p3⟩; exact ⟨r', c', by omega, p2, p3⟩
        | succ n ihn =>
          intro cc o G2 hn k2 x2 p2
          obtain ⟨l2, b2, r2, q2, o2⟩ := stay G2 k2
          have go : ∀ G3 o', Kq sP G G3 → XP a G3 o' → opW a (D r (cc + 1)) o' → EvV K mX3_find 4 85 [(0, .ref 38), (1, .ref H), (2, .ref TT), (3, .ref 18), (4, .int (nI R)), (5, .int (nI r)), (6, .int (nI cc))] [] G3 Q := by
            intro G3 o' k3 x3 p3
            refine kX3_find_85 (k3.lay hL) hH hT ?_
            rw [show nI cc + 1 = nI (cc + 1) from nAdd]
            exact ihn (cc + 1) o' G3 (by omega) k3 x3 p3
          have keep : (wdA a.b a.w r cc = 0 ∨ plB a (wdA a.b a.w r cc) = true) → opW a (D r (cc + 1)) o := by
            intro z
            refine opW_iff p2 (fun x => ?_)
            constructor
            · rintro ⟨r', c', p1, p2, p3, p4, p5, p6⟩
              refine ⟨r', c', ?_, p2, p3, p4, p5, p6⟩
              by_cases y : r' = r ∧ c' = cc
              · exfalso
                rw [y.1, y.2] at p4
                rcases z with z | z
                · exact p5 (by rw [p4, z])
                · rw [← p4, p6] at z; cases z
              · omega
            · rintro ⟨r', c', p1, p2, p3⟩; exact ⟨r', c', by omega, p2, p3⟩
          refine kX3_find_31 l2 hH hT ?_
          rw [bit_at (by omega) (by omega)]
          refine ⟨fun z => absurd z (by rw [show (4 : Int32) = nI 4 from rfl, nLe (by decide) (by omega)]; omega), fun _ => ?_⟩
          by_cases b : R.testBit r = true
          · rw [if_pos b]
            refine ⟨fun z => absurd z (by decide), fun _ => s_X1_wordN l2 hH b2 r2 ho.tb ho.cl hr (by omega) ?_⟩
            have wl' : wdA a.b a.w r cc < 282429536481 := wdA_lt ho.cl hr
            rw [show (0 : Int64) = lN 0 from rfl, lEq (by omega) (by decide)]
            refine ⟨fun z => go G2 o k2 x2 (keep (Or.inl z)), fun z => s_hasPlain l2 hT q2 ho wl' ?_⟩
            by_cases pb : plB a (wdA a.b a.w r cc) = true
            · rw [if_pos pb]
              exact ⟨fun _ => go G2 o k2 x2 (keep (Or.inr pb)), fun y => absurd y (by decide)⟩
            · rw [if_neg pb]
              refine ⟨fun y => absurd rfl y, fun _ => weigh r cc _ o G2 hr (by omega) b rfl z (by simpa using pb) k2 x2 p2 go⟩
          · rw [if_neg b]
            refine ⟨fun _ => next G2 o k2 x2 (opW_iff p2 (fun x => ?_)), fun z => absurd rfl z⟩
            constructor
            · rintro ⟨r', c', p1, p2, p3, p4⟩
              refine ⟨r', c', ?_, p2, p3, p4⟩
              rcases p1 with y | y
              · rcases Nat.lt_succ_iff_lt_or_eq.mp y with u | u
                · exact Or.inl u
                · rw [u] at p3; exact absurd p3 b
              · omega
            · rintro ⟨r', c', p1, p2, p3, p4⟩
              refine ⟨r', c', ?_, p2, p3, p4⟩
              rcases p1 with y | y
              · exact Or.inl (by omega)
              · rw [y.1] at p3; exact absurd p3 b
      refine kX3_find_19 l1 hH hT ?_
      rw [r1.1]
      exact ⟨fun z => absurd z (by rw [nLe (by omega) (by omega)]; omega), fun _ => cols 4 0 o G1 (by omega) k1 xp op⟩
  refine rows a.w.1 0 none _ (by omega) k0 ?_ (fun v hv => ?_)
  · show sL (uI (uL G 38 0 0) 38 1 0) 38 0 = lN 0
    rw [gLI, gL, if_pos ⟨rfl, rfl⟩]; rfl
  · obtain ⟨r', c', p1, -⟩ := hv
    omega
theorem x_parts {Q : Int64 → St → Prop} {x : Int32} (h : XI e sen G a) (ho : OkA e a) (hQ : ∀ G', XI e sen G' a → KX G G' → Q (rParts a x) G') : EvLa K mX11_parts 11 0 [(0, .ref 1), (1, .int x)] [] G Q := by
  have no : ∀ G', XI e sen G' a → KX G G' → (0 ≤ x.toInt ∧ x.toInt ≤ 1 → ptO a = none) → Q (-1) G' := fun G' h1 h2 h3 => by
    have := hQ G' h1 h2
    unfold rParts at this
    by_cases z : 0 ≤ x.toInt ∧ x.toInt ≤ 1
    · rw [if_pos z, h3 z] at this; exact this
    · rw [if_neg z] at this; exact this
  refine kX11_parts_0 h.lay ?_
  rw [fa_lt, fa_lt, show (0 : Int32).toInt = 0 from rfl, show (1 : Int32).toInt = 1 from rfl]
  refine ⟨fun z => no G h Kg.rf (fun y => by omega), fun z1 => ⟨fun z => no G h Kg.rf (fun y => by omega), fun z2 => s_searched h ho (fun q0 => ⟨h.lay, fun z => absurd rfl z, fun _ => no G h Kg.rf (fun _ => ?_)⟩) (fun G1 q0 h1 k1 f1 => ⟨h1.lay, fun _ => x_find h1 f1 ho (fun G2 o k2 xp op => ?_), fun z => absurd z (by decide)⟩)⟩⟩
  · refine ptO_eq ho (o := none) (fun v hv => ?_)
    obtain ⟨s, r, h1, -⟩ := ho.nWp.mp hv.2.2
    unfold AS.J at h1
    rw [if_pos q0] at h1
    cases h1
  · have hL1 := h1.lay
    have fk : ∀ k, sI G2 1 k = sI G1 1 k := fun k => k2.I (by unfold sP; omega)
    have x2 : XI e sen G2 a := ⟨k2.lay hL1, h1.rm.kq k2, h1.c.fr hL1 (k2.g.mono (fun i k _ z => by unfold sP at z; unfold frS; omega) (fun i k _ z => z)), fun z => by rw [fk] at z; exact (h1.fh z).kq k2 (fun i k z => by unfold sP at z; unfold sHt; omega), fun z => by rw [fk] at z; exact (h1.ft z).kq k2 (fun i k z => by unfold sP at z; unfold sTi; omega), fun z => by rw [fk] at z; exact (h1.fo z).kq k2 (fun i k z => by unfold sP at z; unfold sOf; omega), fun z => by
      rw [fk] at z
      obtain ⟨z1, z2, z3, z4⟩ := h1.fs z
      exact ⟨z1, by rw [fk]; exact z2, by rw [fk]; exact z3, z4.kq hL1 k2 (fun i k z => by unfold sP at z; omega)⟩⟩
    have kk : KX G G2 := k1.kx.tr (k2.kx (fun i k z => by unfold sP at z; omega))
    have hp := ptO_eq ho op
    have hr := hQ G2 x2 kk
    unfold rParts at hr
    rw [if_pos ⟨by omega, by omega⟩, hp] at hr
    cases o with
    | none =>
      have xp' : sL G2 38 0 = lN 0 := xp
      exact ⟨fun y => absurd xp' y, fun _ => hr⟩
    | some w =>
      obtain ⟨x1, x3, x4⟩ := xp
      have w0 : w ≠ 0 := fun y => by have := x4.2; rw [y] at this; exact this rfl
      have hr : Q (if x = 0 then lN w else Int32.toInt64 (nI (mrW a w))) G2 := hr
      rw [x1, x3, show (0 : Int64) = lN 0 from rfl, lEq (by have := x4.1; omega) (by decide)]
      refine ⟨fun _ => ⟨fun y => ?_, fun y => ?_⟩, fun y => absurd y w0⟩
      · rw [if_neg y] at hr; exact hr
      · rw [if_pos y] at hr; exact hr
end PARTS2

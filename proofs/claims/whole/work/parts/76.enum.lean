/-! all sets that hang together, as the class finds them -/
theorem lt_bits {x y i : Nat} (hx : x.testBit i = false) (hy : y.testBit i = true) (h : ∀ j, i < j → x.testBit j = y.testBit j) : x < y := by
  have e : x / 2 ^ (i + 1) = y / 2 ^ (i + 1) := by
    apply Nat.eq_of_testBit_eq
    intro j
    rw [Nat.testBit_div_two_pow, Nat.testBit_div_two_pow]
    exact h _ (by omega)
  have hx2 : x % 2 ^ (i + 1) < 2 ^ i := by
    apply Nat.lt_pow_two_of_testBit
    intro j hj
    rw [Nat.testBit_mod_two_pow]
    by_cases q : j = i
    · subst q; simp [hx]
    · have : ¬ j < i + 1 := by omega
      simp [this]
  have hy2 : 2 ^ i ≤ y % 2 ^ (i + 1) := by
    rcases Nat.lt_or_ge (y % 2 ^ (i + 1)) (2 ^ i) with q | q
    · have := Nat.testBit_lt_two_pow q
      rw [Nat.testBit_mod_two_pow] at this
      simp [hy] at this
    · exact q
  have a := Nat.div_add_mod x (2 ^ (i + 1))
  have b := Nat.div_add_mod y (2 ^ (i + 1))
  rw [e] at a
  omega
def adG (r low : Nat) : List Nat → Nat → List Nat → Option (List Nat × Nat)
  | [], mg, kp => some (kp, mg)
  | g :: gs, mg, kp => if g.testBit r = true then adG r low gs (mg ||| g) kp else if g &&& low = 0 then none else adG r low gs mg (kp ++ [g])
theorem adG_eq {td : Nat → Nat} {r low : Nat} : ∀ (cs : List Nat) (mg : Nat) (kp : List Nat),
    ((∀ C, C ∈ cs → (ru td C).testBit r = false → ru td C &&& low ≠ 0) → adG r low (cs.map (ru td)) mg kp = some (kp ++ (cs.filter (fun C => !(ru td C).testBit r)).map (ru td), ((cs.filter (fun C => (ru td C).testBit r)).map (ru td)).foldl (fun a c => a ||| c) mg)) ∧
    (∀ x, adG r low (cs.map (ru td)) mg kp = some x → ∀ C, C ∈ cs → (ru td C).testBit r = false → ru td C &&& low ≠ 0)
  | [], mg, kp => ⟨fun _ => by simp [adG], fun x _ C h => absurd h List.not_mem_nil⟩
  | c :: cs, mg, kp => by
    rw [List.map_cons]
    by_cases e : (ru td c).testBit r = true
    · obtain ⟨h1, h2⟩ := adG_eq (td := td) (r := r) (low := low) cs (mg ||| ru td c) kp
      have e1 : adG r low (ru td c :: cs.map (ru td)) mg kp = adG r low (cs.map (ru td)) (mg ||| ru td c) kp := by rw [adG, if_pos e]
      rw [e1]
      refine ⟨fun h => ?_, fun x hx C hC he => ?_⟩
      · rw [h1 (fun C hC => h C (List.mem_cons_of_mem _ hC)), List.filter_cons_of_neg (by simp [e]), List.filter_cons_of_pos (by exact e)]; rfl
      · rcases List.mem_cons.mp hC with q | q
        · subst q; rw [e] at he; cases he
        · exact h2 x hx C q he
    · obtain ⟨h1, h2⟩ := adG_eq (td := td) (r := r) (low := low) cs mg (kp ++ [ru td c])
      have e' : (ru td c).testBit r = false := by simpa using e
      by_cases z : ru td c &&& low = 0
      · have e1 : adG r low (ru td c :: cs.map (ru td)) mg kp = none := by rw [adG, if_neg e, if_pos z]
        rw [e1]
        exact ⟨fun h => absurd z (h c List.mem_cons_self e'), fun x hx => by cases hx⟩
      · have e1 : adG r low (ru td c :: cs.map (ru td)) mg kp = adG r low (cs.map (ru td)) mg (kp ++ [ru td c]) := by rw [adG, if_neg e, if_neg z]
        rw [e1]
        refine ⟨fun h => ?_, fun x hx C hC he => ?_⟩
        · rw [h1 (fun C hC => h C (List.mem_cons_of_mem _ hC)), List.filter_cons_of_pos (by simp [e']), List.filter_cons_of_neg (by exact e)]; simp
        · rcases List.mem_cons.mp hC with q | q
          · subst q; exact z
          · exact h2 x hx C q he
def lowR (wi : Nat → Nat) (rows r : Nat) : Nat := rows &&& (2 ^ r - 1) &&& wi r
noncomputable def gl (td wi : Nat → Nat) : Nat → List Nat → Nat → Nat → List Nat
  | 0, gs, set, rows => (bl (gs.foldl (fun a g => a &&& g) rows)).map (fun r => set ||| 2 ^ r)
  | m + 1, gs, set, rows => (bl rows).flatMap (fun r =>
      if lowR wi rows r = 0 then [] else match adG r (lowR wi rows r) gs (td r) [] with
        | none => []
        | some x => if x.2 &&& lowR wi rows r = 0 then [] else gl td wi m (x.1 ++ [x.2]) (set ||| 2 ^ r) (lowR wi rows r))
theorem low_bit {wi : Nat → Nat} {rows r i : Nat} : (lowR wi rows r).testBit i = true ↔ rows.testBit i = true ∧ i < r ∧ (wi r).testBit i = true := by
  unfold lowR
  rw [and_bit, and_bit, Nat.testBit_two_pow_sub_one, decide_eq_true_iff, and_assoc]
theorem low_sb {wi : Nat → Nat} {rows r : Nat} : sb (lowR wi rows r) rows := fun _ h => (low_bit.mp h).1
theorem fold_and : ∀ (gs : List Nat) (x j : Nat), (gs.foldl (fun a g => a &&& g) x).testBit j = true ↔ x.testBit j = true ∧ ∀ g, g ∈ gs → g.testBit j = true
  | [], x, j => by simp
  | g :: gs, x, j => by
    rw [List.foldl_cons, fold_and gs, and_bit]
    constructor
    · rintro ⟨⟨a, b⟩, c⟩
      refine ⟨a, fun y hy => ?_⟩
      rcases List.mem_cons.mp hy with q | q
      · subst q; exact b
      · exact c y q
    · rintro ⟨a, b⟩
      exact ⟨⟨a, b g List.mem_cons_self⟩, fun y hy => b y (List.mem_cons_of_mem _ hy)⟩
/-- one of rows more -/
theorem gl_form {td wi : Nat → Nat} : ∀ {m : Nat} {gs : List Nat} {set rows t : Nat}, rows < 2 ^ 32 → t ∈ gl td wi m gs set rows → ∃ r T, rows.testBit r = true ∧ sb T rows ∧ (∀ i, T.testBit i = true → i < r) ∧ t = set ||| 2 ^ r ||| T
  | 0, gs, set, rows, t, hr, h => by
    rw [gl, List.mem_map] at h
    obtain ⟨r, h1, h2⟩ := h
    have hlt : gs.foldl (fun a g => a &&& g) rows < 2 ^ 32 := sb_lt (s := rows) (fun i z => ((fold_and gs rows i).mp z).1) hr
    have h3 := ((fold_and gs rows r).mp ((bl_mem hlt).mp h1)).1
    exact ⟨r, 0, h3, ⟨fun i z => absurd z (by rw [Nat.zero_testBit]; decide), ⟨fun i z => absurd z (by rw [Nat.zero_testBit]; decide), by rw [Nat.or_zero]; exact h2.symm⟩⟩⟩
  | m + 1, gs, set, rows, t, hr, h => by
    rw [gl, List.mem_flatMap] at h
    obtain ⟨r, h1, h2⟩ := h
    have h3 := (bl_mem hr).mp h1
    split at h2
    · exact absurd h2 List.not_mem_nil
    · split at h2
      · exact absurd h2 List.not_mem_nil
      · split at h2
        · exact absurd h2 List.not_mem_nil
        · obtain ⟨r2, T, a1, a2, a3, a4⟩ := gl_form (sb_lt low_sb hr) h2
          refine ⟨r, 2 ^ r2 ||| T, h3, fun i z => ?_, fun i z => ?_, by rw [a4]; simp only [Nat.or_assoc]⟩
          · rcases (or_bit _ _ _).mp z with q | q
            · rw [p2_bit, decide_eq_true_iff] at q; subst q; exact low_sb _ a1
            · exact low_sb _ (a2 i q)
          · rcases (or_bit _ _ _).mp z with q | q
            · rw [p2_bit, decide_eq_true_iff] at q; subst q; exact (low_bit.mp a1).2.1
            · exact (low_bit.mp (a2 i q)).2.1
theorem blf_sorted {s : Nat} : ∀ {m i : Nat}, (blf s i m).Pairwise (fun a b => a < b)
  | 0, i => List.Pairwise.nil
  | m + 1, i => by
    rw [blf]
    split
    · refine List.pairwise_cons.mpr ⟨fun a ha => ?_, blf_sorted⟩
      have := (blf_mem.mp ha).1
      omega
    · exact blf_sorted
theorem bl_sorted (s : Nat) : (bl s).Pairwise (fun a b => a < b) := blf_sorted
theorem gl_sorted {td wi : Nat → Nat} : ∀ {m : Nat} {gs : List Nat} {set rows : Nat}, rows < 2 ^ 32 → (∀ i j, rows.testBit i = true → set.testBit j = true → i < j) → (gl td wi m gs set rows).Pairwise (fun a b => a < b)
  | 0, gs, set, rows, hr, hd => by
    have hlt : gs.foldl (fun a g => a &&& g) rows < 2 ^ 32 := sb_lt (s := rows) (fun i z => ((fold_and gs rows i).mp z).1) hr
    rw [gl, List.pairwise_map]
    refine (bl_sorted _).imp_of_mem (fun {a b} ha hb hab => ?_)
    have ha' := ((fold_and gs rows a).mp ((bl_mem hlt).mp ha)).1
    have hb' := ((fold_and gs rows b).mp ((bl_mem hlt).mp hb)).1
    refine lt_bits (i := b) ?_ ?_ (fun j hj => ?_)
    · cases z : (set ||| 2 ^ a).testBit b
      · rfl
      · rcases (add_bit _ _ _).mp z with q | q
        · have := hd b b hb' q; omega
        · omega
    · exact (add_bit _ _ _).mpr (Or.inr rfl)
    · have e1 : ¬ a = j := by omega
      have e2 : ¬ b = j := by omega
      rw [Nat.testBit_or, Nat.testBit_or, p2_bit, p2_bit]; simp [e1, e2]
  | m + 1, gs, set, rows, hr, hd => by
    rw [gl, List.pairwise_flatMap]
    constructor
    · intro r hmem
      have h3 := (bl_mem hr).mp hmem
      split
      · exact List.Pairwise.nil
      · split
        · exact List.Pairwise.nil
        · split
          · exact List.Pairwise.nil
          · refine gl_sorted (sb_lt low_sb hr) (fun i j hi hj => ?_)
            have := low_bit.mp hi
            rcases (add_bit _ _ _).mp hj with q | q
            · exact hd i j this.1 q
            · omega
    · refine (bl_sorted _).imp_of_mem (fun {a b} ha hb hab x hx y hy => ?_)
      have ha' := (bl_mem hr).mp ha
      have hb' := (bl_mem hr).mp hb
      have fm : ∀ r z, z ∈ (if lowR wi rows r = 0 then [] else match adG r (lowR wi rows r) gs (td r) [] with
        | none => []
        | some x => if x.2 &&& lowR wi rows r = 0 then [] else gl td wi m (x.1 ++ [x.2]) (set ||| 2 ^ r) (lowR wi rows r)) → ∃ T, (∀ i, T.testBit i = true → i < r) ∧ z = set ||| 2 ^ r ||| T := by
        intro r z hz
        split at hz
        · exact absurd hz List.not_mem_nil
        · split at hz
          · exact absurd hz List.not_mem_nil
          · split at hz
            · exact absurd hz List.not_mem_nil
            · obtain ⟨r2, T, a1, a2, a3, a4⟩ := gl_form (sb_lt low_sb hr) hz
              refine ⟨2 ^ r2 ||| T, fun i z => ?_, by rw [a4]; simp only [Nat.or_assoc]⟩
              rcases (or_bit _ _ _).mp z with q | q
              · rw [p2_bit, decide_eq_true_iff] at q; subst q; exact (low_bit.mp a1).2.1
              · exact (low_bit.mp (a2 i q)).2.1
      obtain ⟨T1, t1, e1⟩ := fm a x hx
      obtain ⟨T2, t2, e2⟩ := fm b y hy
      rw [e1, e2]
      have big : ∀ (T r j : Nat), (∀ i, T.testBit i = true → i < r) → r ≤ j → T.testBit j = false := fun T r j h hj => by
        cases z : T.testBit j
        · rfl
        · have := h j z; omega
      refine lt_bits (i := b) ?_ ?_ (fun j hj => ?_)
      · cases z : (set ||| 2 ^ a ||| T1).testBit b
        · rfl
        · rcases (or_bit _ _ _).mp z with q | q
          · rcases (add_bit _ _ _).mp q with q | q
            · have := hd b b hb' q; omega
            · omega
          · have := t1 b q; omega
      · exact (or_bit _ _ _).mpr (Or.inl ((add_bit _ _ _).mpr (Or.inr rfl)))
      · have e1 : ¬ a = j := by omega
        have e2 : ¬ b = j := by omega
        rw [Nat.testBit_or, Nat.testBit_or, Nat.testBit_or, Nat.testBit_or, p2_bit, p2_bit, big T1 a j t1 (by omega), big T2 b j t2 (by omega)]; simp [e1, e2]
/-- the last row: it is tied to each group -/
theorem Cn_last {td : Nat → Nat} {set r : Nat} {cs : List Nat} (hsy : sy td) (h : Gp td set cs) (hset : set < 2 ^ 32) (hr : r < 32) (hn : set.testBit r = false) : Cn td (set ||| 2 ^ r) ↔ ∀ C, C ∈ cs → (ru td C).testBit r = true := by
  have p2r : ∀ j, (2 ^ r).testBit j = true ↔ j = r := fun j => by rw [p2_bit, decide_eq_true_iff]; exact ⟨Eq.symm, Eq.symm⟩
  constructor
  · intro hc C hC
    have c1 := h.1 C hC
    obtain ⟨i, j, e1, e2, e3, e4⟩ := hc C (fun i z => (add_bit _ _ _).mpr (Or.inl (c1.2.1 i z))) c1.1 (fun e => by
      have : C.testBit r = true := by rw [e]; exact (add_bit _ _ _).mpr (Or.inr rfl)
      rw [c1.2.1 r this] at hn; cases hn)
    rcases (add_bit _ _ _).mp e2 with q | q
    · obtain ⟨D, d1, d2⟩ := h.2.1 j q
      have := (h.apart hsy hC d1 (fun e => by subst e; rw [d2] at e3; cases e3) e1 d2).2
      rw [this] at e4; cases e4
    · subst q
      exact (ru_bit (sb_lt c1.2.1 hset)).mpr ⟨i, e1, e4⟩
  · intro hall
    have e : set ||| 2 ^ r = un cs (2 ^ r) := by
      refine sb_ext (fun i z => ?_) (fun i z => ?_)
      · rcases (add_bit _ _ _).mp z with q | q
        · exact (un_bit _ _ _).mpr (Or.inr (h.2.1 i q))
        · exact (un_bit _ _ _).mpr (Or.inl ((p2r i).mpr q))
      · rcases (un_bit _ _ _).mp z with q | ⟨C, c1, c2⟩
        · exact (add_bit _ _ _).mpr (Or.inr ((p2r i).mp q))
        · exact (add_bit _ _ _).mpr (Or.inl ((h.1 C c1).2.1 i c2))
    rw [e]
    exact Cn_star hsy hr (fun C hC => ⟨sb_lt (h.1 C hC).2.1 hset, (h.1 C hC).2.2, hall C hC⟩)
theorem gl_mem {td wi : Nat → Nat} (hsy : sy td) {N : Nat} (HW : ∀ t, Cn td t → pc t = N → t < 2 ^ 30 → ∀ i j, t.testBit i = true → t.testBit j = true → (wi i).testBit j = true) : ∀ {m : Nat} {cs : List Nat} {set rows t : Nat}, Gp td set cs → set < 2 ^ 30 → rows < 2 ^ 30 → (∀ i j, rows.testBit i = true → set.testBit j = true → i < j) → pc set + (m + 1) = N →
    (t ∈ gl td wi m (cs.map (ru td)) set rows ↔ ∃ T, sb T rows ∧ pc T = m + 1 ∧ t = set ||| T ∧ Cn td t)
  | 0, cs, set, rows, t, hg, hset, hrows, hd, hN => by
    have hset32 : set < 2 ^ 32 := by omega
    have hlt : (cs.map (ru td)).foldl (fun a g => a &&& g) rows < 2 ^ 32 := sb_lt (s := rows) (fun i z => ((fold_and _ rows i).mp z).1) (by omega)
    rw [gl, List.mem_map]
    constructor
    · rintro ⟨r, h1, h2⟩
      obtain ⟨r1, r2⟩ := (fold_and _ rows r).mp ((bl_mem hlt).mp h1)
      have hr : r < 30 := bt_lt hrows r1
      have hn : set.testBit r = false := by
        cases z : set.testBit r
        · rfl
        · have := hd r r r1 z; omega
      refine ⟨2 ^ r, fun i z => ?_, pc_one r (by omega), h2.symm, ?_⟩
      · rw [p2_bit, decide_eq_true_iff] at z; subst z; exact r1
      · rw [← h2]
        exact (Cn_last hsy hg hset32 (by omega) hn).mpr (fun C hC => r2 _ (List.mem_map.mpr ⟨C, hC, rfl⟩))
    · rintro ⟨T, t1, t2, t3, t4⟩
      have hT : T < 2 ^ 30 := sb_lt t1 hrows
      obtain ⟨r, hr⟩ := ne0 (a := T) (fun e => by rw [e, pc_0] at t2; cases t2)
      have eT : T = 2 ^ r := by
        refine (pc_eq (a := 2 ^ r) (s := T) (by omega) (fun i z => ?_) (by rw [pc_one r (by have := bt_lt hT hr; omega)]; omega)).symm
        rw [p2_bit, decide_eq_true_iff] at z; subst z; exact hr
      have r1 := t1 r hr
      have hr30 : r < 30 := bt_lt hrows r1
      have hn : set.testBit r = false := by
        cases z : set.testBit r
        · rfl
        · have := hd r r r1 z; omega
      subst eT
      subst t3
      refine ⟨r, (bl_mem hlt).mpr ((fold_and _ rows r).mpr ⟨r1, fun g hgm => ?_⟩), rfl⟩
      obtain ⟨C, c1, c2⟩ := List.mem_map.mp hgm
      rw [← c2]
      exact (Cn_last hsy hg hset32 (by omega) hn).mp t4 C c1
  | m + 1, cs, set, rows, t, hg, hset, hrows, hd, hN => by
    have hset32 : set < 2 ^ 32 := by omega
    have hrows32 : rows < 2 ^ 32 := by omega
    have hcs : ∀ C, C ∈ cs → C < 2 ^ 32 := fun C hC => sb_lt (hg.1 C hC).2.1 hset32
    rw [gl, List.mem_flatMap]
    -- what the groups become
    have step : ∀ r, rows.testBit r = true → (∀ C, C ∈ cs → (ru td C).testBit r = false → ru td C &&& lowR wi rows r ≠ 0) →
        ∃ cs', Gp td (set ||| 2 ^ r) cs' ∧ adG r (lowR wi rows r) (cs.map (ru td)) (td r) [] = some ((cs.filter (fun C => !(ru td C).testBit r)).map (ru td), ru td (un (cs.filter (fun C => (ru td C).testBit r)) (2 ^ r))) ∧ cs'.map (ru td) = (cs.filter (fun C => !(ru td C).testBit r)).map (ru td) ++ [ru td (un (cs.filter (fun C => (ru td C).testBit r)) (2 ^ r))] := by
      intro r r1 hall
      have hr30 : r < 30 := bt_lt hrows r1
      have hn : set.testBit r = false := by
        cases z : set.testBit r
        · rfl
        · have := hd r r r1 z; omega
      refine ⟨_, hg.join hsy hset32 (by omega) hn, ?_, by rw [List.map_append]; rfl⟩
      rw [(adG_eq cs (td r) []).1 hall, ru_un (fun C hC => hcs C (List.mem_filter.mp hC).1) (Nat.pow_lt_pow_right (by decide) (by omega)), ru_p2 (by omega)]
      simp
    have bounds : ∀ r, rows.testBit r = true → set ||| 2 ^ r < 2 ^ 30 ∧ pc (set ||| 2 ^ r) = pc set + 1 ∧ ∀ i j, (lowR wi rows r).testBit i = true → (set ||| 2 ^ r).testBit j = true → i < j := by
      intro r r1
      have hr30 : r < 30 := bt_lt hrows r1
      have hn : set.testBit r = false := by
        cases z : set.testBit r
        · rfl
        · have := hd r r r1 z; omega
      refine ⟨Nat.or_lt_two_pow hset (Nat.pow_lt_pow_right (by decide) hr30), pc_add (by omega) hn, fun i j hi hj => ?_⟩
      have := low_bit.mp hi
      rcases (add_bit _ _ _).mp hj with q | q
      · exact hd i j this.1 q
      · omega
    constructor
    · rintro ⟨r, h1, h2⟩
      have r1 := (bl_mem hrows32).mp h1
      obtain ⟨b1, b2, b3⟩ := bounds r r1
      split at h2
      · exact absurd h2 List.not_mem_nil
      · split at h2
        · exact absurd h2 List.not_mem_nil
        · rename_i x hx
          split at h2
          · exact absurd h2 List.not_mem_nil
          · have hall := (adG_eq cs (td r) []).2 x hx
            obtain ⟨cs', g', ea, em⟩ := step r r1 hall
            rw [ea] at hx
            have ex := (Option.some.inj hx).symm
            rw [ex] at h2
            simp only [] at h2
            rw [← em] at h2
            obtain ⟨T, t1, t2, t3, t4⟩ := (gl_mem hsy HW g' b1 (sb_lt low_sb hrows) b3 (by omega)).mp h2
            have hT : T.testBit r = false := by
              cases z : T.testBit r
              · rfl
              · have := (low_bit.mp (t1 r z)).2.1; omega
            have hr30 : r < 30 := bt_lt hrows r1
            refine ⟨T ||| 2 ^ r, fun i z => ?_, by rw [pc_add (by omega) hT, t2], by rw [t3, Nat.or_assoc, Nat.or_comm (2 ^ r)], t4⟩
            rcases (add_bit _ _ _).mp z with q | q
            · exact low_sb _ (t1 i q)
            · rw [q]; exact r1
    · rintro ⟨T, t1, t2, t3, t4⟩
      have hT : T < 2 ^ 30 := sb_lt t1 hrows
      have hT0 : T ≠ 0 := fun e => by rw [e, pc_0] at t2; cases t2
      -- the highest
      obtain ⟨r, -, hrT, hrtop⟩ := fb_last (p := fun i => T.testBit i = true) (n := 30) (by
        obtain ⟨i, hi⟩ := ne0 hT0
        exact ⟨i, bt_lt hT hi, hi⟩)
      have r1 := t1 r hrT
      have hr30 : r < 30 := bt_lt hrows r1
      have hn : set.testBit r = false := by
        cases z : set.testBit r
        · rfl
        · have := hd r r r1 z; omega
      obtain ⟨b1, b2, b3⟩ := bounds r r1
      have hT32 : T < 2 ^ 32 := by omega
      have ht30 : t < 2 ^ 30 := by rw [t3]; exact Nat.or_lt_two_pow hset hT
      have hdis : ∀ i, T.testBit i = true → set.testBit i = false := fun i hi => by
        cases z : set.testBit i
        · rfl
        · have := hd i i (t1 i hi) z; omega
      have hpct : pc t = N := by
        have e : pc t = pc set + pc T := by
          rw [t3]
          unfold pc
          rw [← fb_ct_or (fun k _ z => by
            have z1 : set.testBit k = true := z.1
            rw [hdis k z.2] at z1; cases z1)]
          exact fb_ct_cong (fun k _ => by rw [Nat.testBit_or])
        omega
      have hrt : t.testBit r = true := by rw [t3]; exact (or_bit _ _ _).mpr (Or.inr hrT)
      -- the rest
      have t'sb : sb (wt T r) (lowR wi rows r) := fun i z => by
        obtain ⟨z1, z2⟩ := (wt_bit hT32 i).mp z
        refine low_bit.mpr ⟨t1 i z1, ?_, HW t t4 hpct ht30 r i hrt (by rw [t3]; exact (or_bit _ _ _).mpr (Or.inr z1))⟩
        rcases Nat.lt_trichotomy i r with q | q | q
        · exact q
        · exact absurd q z2
        · exact absurd z1 (hrtop i q (bt_lt hT z1))
      have pc' := pc_wt hT32 hrT
      have hT'0 : wt T r ≠ 0 := fun e => by rw [e, pc_0] at pc'; omega
      have hlow0 : lowR wi rows r ≠ 0 := by
        obtain ⟨i, hi⟩ := ne0 hT'0
        exact ne0' (t'sb i hi)
      have et : t = set ||| 2 ^ r ||| wt T r := by
        rw [t3]
        refine sb_ext (fun i z => ?_) (fun i z => ?_)
        · rcases (or_bit _ _ _).mp z with q | q
          · exact (or_bit _ _ _).mpr (Or.inl ((add_bit _ _ _).mpr (Or.inl q)))
          · by_cases e : i = r
            · exact (or_bit _ _ _).mpr (Or.inl ((add_bit _ _ _).mpr (Or.inr e)))
            · exact (or_bit _ _ _).mpr (Or.inr ((wt_bit hT32 i).mpr ⟨q, e⟩))
        · rcases (or_bit _ _ _).mp z with q | q
          · rcases (add_bit _ _ _).mp q with q | q
            · exact (or_bit _ _ _).mpr (Or.inl q)
            · rw [q]; exact (or_bit _ _ _).mpr (Or.inr hrT)
          · exact (or_bit _ _ _).mpr (Or.inr ((wt_bit hT32 i).mp q).1)
      -- a group of set and r that nothing of the rest is tied to cuts t
      have out : ∀ (C : Nat) (cs' : List Nat), Gp td (set ||| 2 ^ r) cs' → C ∈ cs' → ru td C &&& lowR wi rows r ≠ 0 := by
        intro C cs' g' hC e0
        have c1 := g'.1 C hC
        have hC32 : C < 2 ^ 32 := sb_lt c1.2.1 (by omega)
        obtain ⟨i0, hi0⟩ := ne0 hT'0
        have hi0' := (low_bit.mp (t'sb i0 hi0))
        obtain ⟨i, j, e1, e2, e3, e4⟩ := t4 C (fun i z => by rw [et]; exact (or_bit _ _ _).mpr (Or.inl (c1.2.1 i z))) c1.1 (fun e => by
          have : C.testBit i0 = true := by rw [e, et]; exact (or_bit _ _ _).mpr (Or.inr hi0)
          have := b3 i0 i0 (t'sb i0 hi0) (c1.2.1 i0 this); omega)
        rw [et] at e2
        rcases (or_bit _ _ _).mp e2 with q | q
        · obtain ⟨D, d1, d2⟩ := g'.2.1 j q
          have := (g'.apart hsy hC d1 (fun e => by subst e; rw [d2] at e3; cases e3) e1 d2).2
          rw [this] at e4; cases e4
        · have : (ru td C &&& lowR wi rows r).testBit j = true := (and_bit _ _ _).mpr ⟨(ru_bit hC32).mpr ⟨i, e1, e4⟩, t'sb j q⟩
          rw [e0, Nat.zero_testBit] at this; cases this
      have gj := hg.join hsy hset32 (by omega) hn
      have hall : ∀ C, C ∈ cs → (ru td C).testBit r = false → ru td C &&& lowR wi rows r ≠ 0 := fun C hC he => out C _ gj (List.mem_append_left _ (List.mem_filter.mpr ⟨hC, by simp [he]⟩))
      obtain ⟨cs', g', ea, em⟩ := step r r1 hall
      refine ⟨r, (bl_mem hrows32).mpr r1, ?_⟩
      rw [if_neg hlow0, ea]
      simp only []
      rw [if_neg (out _ _ gj (List.mem_append_right _ (List.mem_singleton.mpr rfl))), ← em]
      exact (gl_mem hsy HW g' b1 (sb_lt low_sb hrows) b3 (by omega)).mpr ⟨wt T r, t'sb, by omega, et, t4⟩
/-- so many ties away -/
noncomputable def wiK (td : Nat → Nat) : Nat → Nat → Nat
  | 0, r => 2 ^ r
  | k + 1, r => wiK td k r ||| ru td (wiK td k r)
theorem ru_lt {td : Nat → Nat} {s n : Nat} (ht : ∀ i, td i < 2 ^ n) : ru td s < 2 ^ n := by
  apply Nat.lt_pow_two_of_testBit
  intro j hj
  cases e : (ru td s).testBit j
  · rfl
  · unfold ru at e
    rcases (fold_or _ _ _).mp e with q | ⟨i, -, q⟩
    · rw [Nat.zero_testBit] at q; cases q
    · exact absurd (bt_lt (ht i) q) (by omega)
theorem wiK_lt {td : Nat → Nat} (ht : ∀ i, td i < 2 ^ 30) : ∀ {k r : Nat}, r < 30 → wiK td k r < 2 ^ 30
  | 0, r, h => Nat.pow_lt_pow_right (by decide) h
  | k + 1, r, h => Nat.or_lt_two_pow (wiK_lt ht h) (ru_lt ht)
theorem wiK_all {td : Nat → Nat} (ht : ∀ i, td i < 2 ^ 30) {t r : Nat} (hc : Cn td t) (h30 : t < 2 ^ 30) (hr : t.testBit r = true) : ∀ k, t &&& wiK td k r = t ∨ k + 1 ≤ pc (t &&& wiK td k r)
  | 0 => by
    right
    have e : t &&& wiK td 0 r = 2 ^ r := by
      refine sb_ext (fun i z => ((and_bit _ _ _).mp z).2) (fun i z => (and_bit _ _ _).mpr ⟨?_, z⟩)
      rw [p2_bit, decide_eq_true_iff] at z; subst z; exact hr
    rw [e, pc_one r (by have := bt_lt h30 hr; omega)]
    exact Nat.le_refl 1
  | k + 1 => by
    have hr30 := bt_lt h30 hr
    have hw := wiK_lt ht (k := k) hr30
    have mono : sb (t &&& wiK td k r) (t &&& wiK td (k + 1) r) := fun i z => by
      obtain ⟨a, b⟩ := (and_bit _ _ _).mp z
      exact (and_bit _ _ _).mpr ⟨a, (or_bit _ _ _).mpr (Or.inl b)⟩
    have sbt : ∀ x, sb (t &&& x) t := fun x i z => ((and_bit _ _ _).mp z).1
    rcases Classical.em (t &&& wiK td k r = t) with q | q
    · left
      exact sb_ext (sbt _) (by rw [q] at mono; exact mono)
    · rcases wiK_all ht hc h30 hr k with z | z
      · exact absurd z q
      · right
        have hrin : (wiK td k r).testBit r = true := by
          clear mono q z hw
          induction k with
          | zero => show (2 ^ r).testBit r = true; rw [p2_bit]; simp
          | succ k ih => exact (or_bit _ _ _).mpr (Or.inl ih)
        obtain ⟨i, j, e1, e2, e3, e4⟩ := hc (t &&& wiK td k r) (sbt _) (ne0' ((and_bit _ _ _).mpr ⟨hr, hrin⟩)) q
        have hj : (t &&& wiK td (k + 1) r).testBit j = true := (and_bit _ _ _).mpr ⟨e2, (or_bit _ _ _).mpr (Or.inr ((ru_bit (by omega)).mpr ⟨i, ((and_bit _ _ _).mp e1).2, e4⟩))⟩
        have := pc_lt (by have := sb_lt (sbt (wiK td (k + 1) r)) h30; omega) mono hj e3
        omega
theorem wiK_ok {td : Nat → Nat} (ht : ∀ i, td i < 2 ^ 30) (k : Nat) : ∀ t, Cn td t → pc t = k + 1 → t < 2 ^ 30 → ∀ i j, t.testBit i = true → t.testBit j = true → (wiK td k i).testBit j = true := by
  intro t hc hp h30 i j hi hj
  have sbt : sb (t &&& wiK td k i) t := fun x z => ((and_bit _ _ _).mp z).1
  have e : t &&& wiK td k i = t := by
    rcases wiK_all ht hc h30 hi k with q | q
    · exact q
    · exact pc_eq (by omega) sbt (by omega)
  rw [← e] at hj
  exact ((and_bit _ _ _).mp hj).2

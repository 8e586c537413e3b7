/-! tokens -/
def isLt (c : Nat) : Bool := decide (97 ≤ c ∧ c ≤ 122)
def isDg (c : Nat) : Bool := decide (48 ≤ c ∧ c ≤ 57)
def isBl (c : Nat) : Bool := c == 10 || c == 32
/-- from p on as long as P -/
def rn (P : Nat → Bool) (T : TPt) (p : Nat) : Nat := p + fa_first (fun j => !P (T.2 (p + j))) (T.1 - p)
theorem rn_ge (P : Nat → Bool) (T : TPt) (p : Nat) : p ≤ rn P T p := Nat.le_add_right _ _
theorem rn_le {P : Nat → Bool} {T : TPt} {p : Nat} (h : p ≤ T.1) : rn P T p ≤ T.1 := by
  have := fa_first_le (fun j => !P (T.2 (p + j))) (T.1 - p)
  unfold rn; omega
theorem rn_in {P : Nat → Bool} {T : TPt} {p j : Nat} (h1 : p ≤ j) (h2 : j < rn P T p) : P (T.2 j) = true := by
  have := fa_first_no (fun j => !P (T.2 (p + j))) (T.1 - p) (j - p) (by unfold rn at h2; omega)
  simp only [Nat.add_sub_cancel' h1] at this
  simpa using this
theorem rn_end {P : Nat → Bool} {T : TPt} {p : Nat} (h : rn P T p < T.1) : P (T.2 (rn P T p)) = false := by
  have := fa_first_yes (fun j => !P (T.2 (p + j))) (T.1 - p) (by unfold rn at h; omega)
  unfold rn; simpa using this
theorem rn_eq {P : Nat → Bool} {T : TPt} {p e : Nat} (h1 : p ≤ e) (h2 : e ≤ T.1) (h3 : ∀ j, p ≤ j → j < e → P (T.2 j) = true) (h4 : e < T.1 → P (T.2 e) = false) : rn P T p = e := by
  rcases Nat.lt_trichotomy (rn P T p) e with q | q | q
  · have a := h3 _ (rn_ge P T p) q
    rw [rn_end (P := P) (T := T) (p := p) (by omega)] at a; cases a
  · exact q
  · have a := rn_in (P := P) h1 q
    have b := rn_le (P := P) (T := T) (p := p) (by omega)
    rw [h4 (by omega)] at a; cases a
/-- k letters from p on as a word, k digits as a number -/
def wv (T : TPt) (p : Nat) : Nat → Nat
  | 0 => 0
  | k + 1 => 27 * wv T p k + (T.2 (p + k) - 96)
def dv (T : TPt) (p : Nat) : Nat → Nat
  | 0 => 0
  | k + 1 => 10 * dv T p k + (T.2 (p + k) - 48)
theorem wv_lt {T : TPt} {p : Nat} : ∀ {k : Nat}, (∀ j, j < k → isLt (T.2 (p + j)) = true) → wv T p k < 27 ^ k
  | 0, _ => by simp [wv]
  | k + 1, h => by
    have h1 := wv_lt (T := T) (p := p) (k := k) (fun j hj => h j (by omega))
    have h2 := of_decide_eq_true (h k (by omega))
    rw [wv, Nat.pow_succ]
    omega
theorem dv_lt {T : TPt} {p : Nat} : ∀ {k : Nat}, (∀ j, j < k → isDg (T.2 (p + j)) = true) → dv T p k < 10 ^ k
  | 0, _ => by simp [dv]
  | k + 1, h => by
    have h1 := dv_lt (T := T) (p := p) (k := k) (fun j hj => h j (by omega))
    have h2 := of_decide_eq_true (h k (by omega))
    rw [dv, Nat.pow_succ]
    omega
/-- the token at or behind p: kind (0 the end, 1 a word, 2 a number, 3 a sign, 4 none), place, value, what is behind it -/
def tok (T : TPt) (p : Nat) : Nat × Nat × Nat × Nat :=
  let q := rn isBl T p
  if T.1 ≤ q then (0, q, 0, q)
  else if isLt (T.2 q) then (if rn isLt T q - q ≤ 8 then 1 else 4, q, wv T q (rn isLt T q - q), rn isLt T q)
  else if isDg (T.2 q) then (if rn isDg T q - q ≤ 4 then 2 else 4, q, dv T q (rn isDg T q - q), rn isDg T q)
  else (if T.2 q = 44 ∨ T.2 q = 58 ∨ T.2 q = 59 then 3 else 4, q, T.2 q, q + 1)
/-- the class looks at this token -/
def XTk (G : St) (k : Nat × Nat × Nat × Nat) : Prop := sI G 2 3 = nI k.1 ∧ sI G 2 4 = nI k.2.1 ∧ sI G 2 1 = nI k.2.2.2 ∧ (k.1 ≠ 4 → sL G 2 5 = lN k.2.2.1)
section TAPE
variable {K : KT} {G : St} {T : TPt}
/-- only the tape's other fields are written -/
def KpT (G G' : St) : Prop := Kp (fun i => i = 2) G G' ∧ sI G' 2 2 = sI G 2 2
theorem KpT.rf : KpT G G := ⟨Kp.rf, rfl⟩
theorem KpT.tr {G1 G2 : St} (h : KpT G G1) (h2 : KpT G1 G2) : KpT G G2 := ⟨h.1.tr h2.1, h2.2.trans h.2⟩
theorem KpT.tp {G1 : St} (h : KpT G G1) (hT : XTp G T) : XTp G1 T := ⟨h.2.trans hT.1, hT.2.1, fun j hj => by rw [h.1.I (by decide)]; exact hT.2.2 j hj⟩
theorem kpT_I {k : Nat} {v : Int32} (h : k ≠ 2) : KpT G (uI G 2 k v) := ⟨kp_uI rfl, by rw [gI]; simp [Ne.symm h]⟩
theorem kpT_L {k : Nat} {v : Int64} : KpT G (uL G 2 k v) := ⟨kp_uL rfl, rfl⟩
theorem s_X7_isLetter {Q : Int32 → St → Prop} {c : Nat} (hc : c < 256) (hL : Lay G.2.2) (hQ : Q (if isLt c then 1 else 0) G) : EvI K mX7_isLetter 0 0 [(0, .int (nI c))] [] G Q := by
  unfold isLt at hQ
  refine kX7_isLetter_0 hL (pk_lt c 97 (fun q => ?_) (fun q => pk_lt 122 c (fun q2 => ?_) (fun q2 => ?_)))
  · rw [if_neg (by simp; omega)] at hQ; exact hQ
  · rw [if_neg (by simp; omega)] at hQ; exact hQ
  · rw [if_pos (by simp; omega)] at hQ; exact hQ
theorem s_X7_isDigit {Q : Int32 → St → Prop} {c : Nat} (hc : c < 256) (hL : Lay G.2.2) (hQ : Q (if isDg c then 1 else 0) G) : EvI K mX7_isDigit 0 0 [(0, .int (nI c))] [] G Q := by
  unfold isDg at hQ
  refine kX7_isDigit_0 hL (pk_lt c 48 (fun q => ?_) (fun q => pk_lt 57 c (fun q2 => ?_) (fun q2 => ?_)))
  · rw [if_neg (by simp; omega)] at hQ; exact hQ
  · rw [if_neg (by simp; omega)] at hQ; exact hQ
  · rw [if_pos (by simp; omega)] at hQ; exact hQ
theorem okS_lt {c : Nat} (h : okS c) : c < 256 := by unfold okS at h; omega
theorem w_step {a c : Nat} (h : 97 ≤ c) (h2 : c < 256) : (lN a * 27 + Int32.toInt64 (nI c)) - 97 + 1 = lN (27 * a + (c - 96)) := by
  rw [nI_l (by omega)]
  show lN a * lN 27 + lN c - lN 97 + lN 1 = _
  rw [lN_mul, lN_add, lN_sub (by omega), lN_add]
  congr 1; omega
theorem d_step {a c : Nat} (h : 48 ≤ c) (h2 : c < 256) : (lN a * 10 + Int32.toInt64 (nI c)) - 48 = lN (10 * a + (c - 48)) := by
  rw [nI_l (by omega)]
  show lN a * lN 10 + lN c - lN 48 = _
  rw [lN_mul, lN_add, lN_sub (by omega)]
  congr 1; omega
theorem s_X7_takeWord {Q : St → Prop} {q : Nat} (hL : Lay G.2.2) (hT : XTp G T) (hq : q < T.1) (hp : sI G 2 4 = nI q) (hn : sI G 2 1 = nI q) (hv : sL G 2 5 = 0) (hQ : ∀ G', KpT G G' → sI G' 2 3 = nI (if rn isLt T q - q ≤ 8 then 1 else 4) → sI G' 2 4 = nI q → sI G' 2 1 = nI (rn isLt T q) → (rn isLt T q - q ≤ 8 → sL G' 2 5 = lN (wv T q (rn isLt T q - q))) → Q G') : EvV K mX7_takeWord 1 0 [(0, .ref 2)] [] G Q := by
  have h1000 := hT.2.1
  have fin : ∀ (G1 : St) (e : Nat), e ≤ T.1 → q ≤ e → KpT G G1 → Lay G1.2.2 → (∀ j, q ≤ j → j < e → isLt (T.2 j) = true) → (e < T.1 → isLt (T.2 e) = false) → sI G1 2 4 = nI q → sI G1 2 1 = nI e → sL G1 2 5 = lN (wv T q (e - q)) → EvV K mX7_takeWord 1 68 [(0, .ref 2)] [] G1 Q := by
    intro G1 e he hqe hk hL1 ha hb hp1 hn1 hv1
    have er := rn_eq (P := isLt) hqe he ha hb
    refine kX7_takeWord_68 hL1 ?_
    rw [hn1, hp1, pk_sub hqe]
    refine pk_lt 8 (e - q) (fun z => ?_) (fun z => ?_)
    · refine hQ _ (hk.tr (kpT_I (by decide))) ?_ ?_ ?_ ?_
      · rw [er, if_neg (by omega), gI]; simp; rfl
      · rw [gI]; simp; exact hp1
      · rw [gI, er]; simp; exact hn1
      · rw [er]; intro z2; exact absurd z2 (by omega)
    · refine hQ _ (hk.tr (kpT_I (by decide))) ?_ ?_ ?_ ?_
      · rw [er, if_pos (by omega), gI]; simp; rfl
      · rw [gI]; simp; exact hp1
      · rw [gI, er]; simp; exact hn1
      · rw [er]; intro _; exact hv1
  have key : ∀ (m e : Nat) (G1 : St), e + m = T.1 → q ≤ e → KpT G G1 → Lay G1.2.2 → (∀ j, q ≤ j → j < e → isLt (T.2 j) = true) → sI G1 2 4 = nI q → sI G1 2 1 = nI e → sL G1 2 5 = lN (wv T q (e - q)) → EvV K mX7_takeWord 1 0 [(0, .ref 2)] [] G1 Q := by
    intro m
    induction m with
    | zero =>
      intro e G1 he hqe hk hL1 ha hp1 hn1 hv1
      have hT1 := hk.tp hT
      refine kX7_takeWord_0 hL1 ?_
      rw [hT1.1, hn1]
      exact pk_le T.1 e (fun _ => fin G1 e (by omega) hqe hk hL1 ha (fun z => by omega) hp1 hn1 hv1) (fun z => by omega)
    | succ m ih =>
      intro e G1 he hqe hk hL1 ha hp1 hn1 hv1
      have hT1 := hk.tp hT
      obtain ⟨s1, s2⟩ := hT1.2.2 e (by omega)
      refine kX7_takeWord_0 hL1 ?_
      rw [hT1.1, hn1]
      refine pk_le T.1 e (fun z => by omega) (fun _ => ⟨pk_in e 1000 (by omega), ?_⟩)
      rw [nI_clamp (by omega), s1]
      refine s_X7_isLetter (okS_lt s2) hL1 ?_
      by_cases hl : isLt (T.2 e) = true
      · rw [if_pos hl]
        refine ⟨fun z => absurd z (by decide), fun _ => ?_⟩
        rw [hn1]
        refine ⟨pk_in e 1000 (by omega), fun v4 ev4 => ?_⟩
        have hl2 := of_decide_eq_true hl
        rw [nI_clamp (by omega), s1, hv1, w_step hl2.1 (okS_lt s2)] at ev4
        rw [nI_1]
        refine ih (e + 1) _ (by omega) (by omega) (hk.tr (kpT_L.tr (kpT_I (by decide)))) hL1 (fun j h1 h2 => ?_) ?_ ?_ ?_
        · rcases Nat.lt_succ_iff_lt_or_eq.mp h2 with z | z
          · exact ha j h1 z
          · subst z; exact hl
        · rw [gI]; simp; exact hp1
        · rw [gI]; simp
        · show sL (uL G1 2 5 v4) 2 5 = _
          rw [gL]; simp
          rw [ev4, show e + 1 - q = (e - q) + 1 by omega, wv, show q + (e - q) = e by omega]
      · have hl : isLt (T.2 e) = false := by simpa using hl
        rw [hl]
        exact ⟨fun _ => fin G1 e (by omega) hqe hk hL1 ha (fun _ => hl) hp1 hn1 hv1, fun z => absurd rfl z⟩
  exact key (T.1 - q) q G (by omega) (Nat.le_refl _) KpT.rf hL (fun j h1 h2 => by omega) hp hn (by rw [Nat.sub_self]; exact hv)
theorem s_X7_takeNumber {Q : St → Prop} {q : Nat} (hL : Lay G.2.2) (hT : XTp G T) (hq : q < T.1) (hp : sI G 2 4 = nI q) (hn : sI G 2 1 = nI q) (hv : sL G 2 5 = 0) (hQ : ∀ G', KpT G G' → sI G' 2 3 = nI (if rn isDg T q - q ≤ 4 then 2 else 4) → sI G' 2 4 = nI q → sI G' 2 1 = nI (rn isDg T q) → (rn isDg T q - q ≤ 4 → sL G' 2 5 = lN (dv T q (rn isDg T q - q))) → Q G') : EvV K mX7_takeNumber 1 0 [(0, .ref 2)] [] G Q := by
  have h1000 := hT.2.1
  have fin : ∀ (G1 : St) (e : Nat), e ≤ T.1 → q ≤ e → KpT G G1 → Lay G1.2.2 → (∀ j, q ≤ j → j < e → isDg (T.2 j) = true) → (e < T.1 → isDg (T.2 e) = false) → sI G1 2 4 = nI q → sI G1 2 1 = nI e → sL G1 2 5 = lN (dv T q (e - q)) → EvV K mX7_takeNumber 1 66 [(0, .ref 2)] [] G1 Q := by
    intro G1 e he hqe hk hL1 ha hb hp1 hn1 hv1
    have er := rn_eq (P := isDg) hqe he ha hb
    refine kX7_takeNumber_66 hL1 ?_
    rw [hn1, hp1, pk_sub hqe]
    refine pk_lt 4 (e - q) (fun z => ?_) (fun z => ?_)
    · refine hQ _ (hk.tr (kpT_I (by decide))) ?_ ?_ ?_ ?_
      · rw [er, if_neg (by omega), gI]; simp; rfl
      · rw [gI]; simp; exact hp1
      · rw [gI, er]; simp; exact hn1
      · rw [er]; intro z2; exact absurd z2 (by omega)
    · refine hQ _ (hk.tr (kpT_I (by decide))) ?_ ?_ ?_ ?_
      · rw [er, if_pos (by omega), gI]; simp; rfl
      · rw [gI]; simp; exact hp1
      · rw [gI, er]; simp; exact hn1
      · rw [er]; intro _; exact hv1
  have key : ∀ (m e : Nat) (G1 : St), e + m = T.1 → q ≤ e → KpT G G1 → Lay G1.2.2 → (∀ j, q ≤ j → j < e → isDg (T.2 j) = true) → sI G1 2 4 = nI q → sI G1 2 1 = nI e → sL G1 2 5 = lN (dv T q (e - q)) → EvV K mX7_takeNumber 1 0 [(0, .ref 2)] [] G1 Q := by
    intro m
    induction m with
    | zero =>
      intro e G1 he hqe hk hL1 ha hp1 hn1 hv1
      have hT1 := hk.tp hT
      refine kX7_takeNumber_0 hL1 ?_
      rw [hT1.1, hn1]
      exact pk_le T.1 e (fun _ => fin G1 e (by omega) hqe hk hL1 ha (fun z => by omega) hp1 hn1 hv1) (fun z => by omega)
    | succ m ih =>
      intro e G1 he hqe hk hL1 ha hp1 hn1 hv1
      have hT1 := hk.tp hT
      obtain ⟨s1, s2⟩ := hT1.2.2 e (by omega)
      refine kX7_takeNumber_0 hL1 ?_
      rw [hT1.1, hn1]
      refine pk_le T.1 e (fun z => by omega) (fun _ => ⟨pk_in e 1000 (by omega), ?_⟩)
      rw [nI_clamp (by omega), s1]
      refine s_X7_isDigit (okS_lt s2) hL1 ?_
      by_cases hl : isDg (T.2 e) = true
      · rw [if_pos hl]
        refine ⟨fun z => absurd z (by decide), fun _ => ?_⟩
        rw [hn1]
        refine ⟨pk_in e 1000 (by omega), ?_⟩
        have hl2 := of_decide_eq_true hl
        rw [nI_clamp (by omega), s1, hv1, d_step hl2.1 (okS_lt s2), nI_1]
        refine ih (e + 1) _ (by omega) (by omega) (hk.tr (kpT_L.tr (kpT_I (by decide)))) hL1 (fun j h1 h2 => ?_) ?_ ?_ ?_
        · rcases Nat.lt_succ_iff_lt_or_eq.mp h2 with z | z
          · exact ha j h1 z
          · subst z; exact hl
        · rw [gI]; simp; exact hp1
        · rw [gI]; simp
        · show sL (uL G1 2 5 _) 2 5 = _
          rw [gL]; simp
          rw [show e + 1 - q = (e - q) + 1 by omega, dv, show q + (e - q) = e by omega]
      · have hl : isDg (T.2 e) = false := by simpa using hl
        rw [hl]
        exact ⟨fun _ => fin G1 e (by omega) hqe hk hL1 ha (fun _ => hl) hp1 hn1 hv1, fun z => absurd rfl z⟩
  exact key (T.1 - q) q G (by omega) (Nat.le_refl _) KpT.rf hL (fun j h1 h2 => by omega) hp hn (by rw [Nat.sub_self]; exact hv)
end TAPE

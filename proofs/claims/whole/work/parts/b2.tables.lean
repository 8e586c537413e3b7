/-! tables: both -/
def tCo (b : TBt) : Prop := b.1 ≤ 5 ∧ (∀ t, t < b.1 → b.2.2.1 t ≤ 4) ∧ okTb b
def tOk (b : TBt) : Prop := tCo b ∧ dsN b ∧ ∀ t, t < b.1 → ∃ n, b.2.1 t = lN n ∧ gw n
theorem addC_co {b : TBt} {t k : Nat} {v : Int64} (h : tCo b) (h4 : b.2.2.1 t < 4) (hk : k ≤ 6) : tCo (addC b t v k) := by
  obtain ⟨h1, h2, h3⟩ := h
  have ec : ∀ u, (addC b t v k).2.2.1 u = if u = t then b.2.2.1 t + 1 else b.2.2.1 u := fun u => rfl
  have ek : ∀ u c, (addC b t v k).2.2.2.2 u c = if u = t ∧ c = b.2.2.1 t then k else b.2.2.2.2 u c := fun u c => rfl
  refine ⟨h1, fun u hu => ?_, fun u c hu hc => ?_⟩
  · rw [ec]
    split
    · omega
    · exact h2 u hu
  · rw [ec] at hc
    rw [ek]
    by_cases z : u = t ∧ c = b.2.2.1 t
    · rw [if_pos z]; exact hk
    · rw [if_neg z]
      refine h3 u c hu ?_
      by_cases y : u = t
      · rw [if_pos y] at hc
        have : c ≠ b.2.2.1 t := fun x => z ⟨y, x⟩
        rw [y]; omega
      · rw [if_neg y] at hc; exact hc
theorem rdCol_co {T : TPt} {b : TBt} {t i : Nat} (h : tCo b) (h0 : (rdCol T b t i).1 = 0) : tCo (rdCol T b t i).2.1 := by
  obtain ⟨k, k1, k2, -, -, k3⟩ := rdCol_ok h0
  have := h.1
  rw [k3]
  exact addC_co h k2 (by omega)
theorem rdCols_co {T : TPt} {t : Nat} : ∀ (m : Nat) (b : TBt) (i : Nat), tCo b → (rdCols T t m b i).1 = 0 → tCo (rdCols T t m b i).2.1
  | 0, b, i, h, _ => h
  | m + 1, b, i, hb, h => by
    rw [rdCols] at h ⊢
    by_cases h1 : (rdCol T b t (i + 1)).1 = 0
    · rw [if_neg (by simp [h1])] at h ⊢
      have e1 := rdCol_co hb h1
      split
      · rename_i hs
        rw [if_pos hs] at h
        exact rdCols_co m _ _ e1 h
      · split <;> exact e1
    · rw [if_pos h1] at h
      exact absurd h h1
theorem addT_co {b : TBt} {v : Int64} (h : tCo b) (h5 : b.1 < 5) : tCo (addT b v) := by
  obtain ⟨h1, h2, h3⟩ := h
  have ec : ∀ u, (addT b v).2.2.1 u = if u = b.1 then 0 else b.2.2.1 u := fun u => rfl
  refine ⟨h5, fun u hu => ?_, fun u c hu hc => ?_⟩
  · have hu : u < b.1 + 1 := hu
    rw [ec]
    split
    · omega
    · exact h2 u (by omega)
  · have hu : u < b.1 + 1 := hu
    rw [ec] at hc
    by_cases z : u = b.1
    · rw [if_pos z] at hc; omega
    · rw [if_neg z] at hc
      exact h3 u c (by omega) hc
theorem rdTab_t {T : TPt} {b : TBt} {i : Nat} (hA : ∀ j, j < T.1 → okS (T.2 j)) (hb : tOk b) (h : (rdTab T b i).1 = 0) : tOk (rdTab T b i).2.1 := by
  refine ⟨?_, rdTab_ds hb.2.1 h, ?_⟩
  · revert h
    unfold rdTab
    split
    · intro h; exact absurd h (fx_pos (by decide))
    · split
      · intro h; exact absurd h (fx_pos (by decide))
      · split
        · intro h; exact absurd h (fx_pos (by decide))
        · split
          · intro h; exact absurd h (fx_pos (by decide))
          · intro h; exact rdCols_co _ _ _ (addT_co hb.1 (by omega)) h
  · rw [(rdTab_n h).1]
    revert h
    unfold rdTab
    split
    · intro h; exact absurd h (fx_pos (by decide))
    · split
      · intro h; exact absurd h (fx_pos (by decide))
      · split
        · intro h; exact absurd h (fx_pos (by decide))
        · rename_i hn
          split
          · intro h; exact absurd h (fx_pos (by decide))
          · intro h t ht
            rw [rdCols_nm _ _ _ h]
            show ∃ n, (if t = b.1 then vl T (i + 1) else b.2.1 t) = lN n ∧ gw n
            by_cases z : t = b.1
            · rw [if_pos z]
              exact ⟨_, rfl, tk_g hA (isN_1 (by simpa using hn))⟩
            · rw [if_neg z]
              exact hb.2.2 t (by omega)
theorem rdTabs_t {T : TPt} (hA : ∀ j, j < T.1 → okS (T.2 j)) : ∀ (m : Nat) (b : TBt) (i : Nat), tOk b → (rdTabs T m b i).1 = 0 → tOk (rdTabs T m b i).2.1
  | 0, b, i, h, _ => h
  | m + 1, b, i, hb, h => by
    rw [rdTabs] at h ⊢
    by_cases z1 : (tk T i).1 = 0
    · rw [if_pos z1]; exact hb
    · rw [if_neg z1] at h ⊢
      by_cases z2 : (rdTab T b i).1 = 0
      · rw [if_neg (by simp [z2])] at h ⊢
        exact rdTabs_t hA m _ _ (rdTab_t hA hb z2) h
      · rw [if_pos z2] at h; exact absurd h z2
theorem eT_ok : tOk eT := ⟨⟨Nat.zero_le _, fun t ht => absurd ht (Nat.not_lt_zero _), fun t c ht => absurd ht (Nat.not_lt_zero _)⟩, fun t u ht => absurd ht (Nat.not_lt_zero _), fun t ht => absurd ht (Nat.not_lt_zero _)⟩
theorem rdTabs_lt' {T : TPt} (hT : T.1 ≤ 1000) : ∀ (m : Nat) (b : TBt) (i : Nat), (rdTabs T m b i).1 < 20000
  | 0, b, i => by show (0 : Nat) < 20000; decide
  | m + 1, b, i => by
    rw [rdTabs]
    split
    · show (0 : Nat) < 20000; decide
    · split
      · exact rdTab_lt hT
      · exact rdTabs_lt' hT m _ _
/-- new tables, and nothing else -/
def tbA (a : AS) (T : TPt) (b : TBt) : AS := (T, b, (0, fun _ => 0, fun _ _ => 0), eQ, (fun _ _ => false), a.p, a.W, (0, fun _ => 0), (fun _ => 0), (0, fun _ => false, fun _ => false))
section TABLES
variable {K : KT} {G : St} {a : AS} {e : Nat}
theorem OkA.tbs (ho : OkA e a) {T : TPt} {b : TBt} (hT : T.1 ≤ 1000) (hb : tOk b) : OkA e (tbA a T b) :=
  ⟨hb.1.1, hb.1.2.1, hb.1.2.2, hb.2.1, hb.2.2, Nat.zero_le _, fun r hr => absurd hr (Nat.not_lt_zero _), fun r c hr => absurd hr (Nat.not_lt_zero _), fun r c hr => absurd hr (Nat.not_lt_zero _), Nat.zero_le _, fun k hk => absurd hk (Nat.not_lt_zero _), fun k hk => absurd hk (Nat.not_lt_zero _), ho.p4, ho.W1, ho.W5, fun _ _ _ => rfl, fun k hk => absurd hk (Nat.not_lt_zero _), Nat.zero_le _, fun _ => Nat.zero_le _, Nat.zero_le _, hT⟩
end TABLES

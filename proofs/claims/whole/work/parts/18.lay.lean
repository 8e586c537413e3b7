/-! the layout: which thing is where, once both objects are made (by the order of making) -/
abbrev RT : Type := (Nat → Nat → Nat) × (Nat → Nat) × (Nat → Nat) × Nat × Nat
def ltK : List (Nat × Nat) := [(1, 10), (2, 7), (3, 102), (4, 5), (5, 0), (6, 100), (7, 101), (8, 100), (9, 100), (10, 100), (11, 9), (12, 100), (13, 100), (14, 2), (15, 100), (16, 100), (17, 103), (18, 6), (19, 100), (20, 100), (21, 100), (22, 100), (23, 100), (24, 100), (25, 100), (26, 101), (27, 101), (28, 4), (29, 100), (30, 100), (31, 100), (32, 100), (33, 100), (34, 100), (35, 100), (36, 100), (37, 102), (38, 3), (39, 1), (40, 101), (41, 100), (42, 101), (43, 100), (44, 100), (45, 100), (46, 100), (47, 101), (48, 100), (49, 1), (50, 101), (51, 100), (52, 101), (53, 100), (54, 100), (55, 100), (56, 100), (57, 101), (58, 100), (59, 8), (60, 100), (61, 101), (62, 8), (63, 100), (64, 101), (65, 100), (66, 11), (67, 100), (68, 100), (69, 100), (70, 101), (71, 101), (72, 100), (73, 101), (74, 100), (75, 101), (76, 100), (77, 100), (78, 101), (79, 100), (80, 101), (81, 100), (82, 100), (83, 103), (84, 100), (85, 100), (86, 100), (87, 100), (88, 100), (89, 100), (90, 100), (91, 100), (92, 100), (93, 100), (94, 100), (95, 100), (96, 100), (97, 100), (98, 100), (99, 100), (100, 100), (101, 103), (102, 103), (103, 101)]
def ltN : List (Nat × Nat) := [(3, 1000), (6, 120), (7, 120), (8, 4), (9, 4), (10, 30), (12, 900), (13, 30), (15, 400), (16, 20), (17, 20), (19, 30), (20, 6), (21, 30), (22, 6), (23, 65), (24, 64), (25, 64), (29, 64), (35, 251), (36, 251), (37, 200), (40, 5), (41, 5), (42, 20), (43, 20), (44, 30), (45, 30), (46, 5), (47, 120), (48, 4), (50, 5), (51, 5), (52, 20), (53, 20), (54, 30), (55, 30), (56, 5), (57, 120), (58, 4), (60, 4), (61, 4), (63, 4), (64, 4), (65, 3), (67, 1000), (68, 1002), (69, 1002), (70, 1002), (71, 8), (72, 2), (73, 10), (74, 10), (75, 40), (76, 40), (77, 31), (78, 124), (79, 8), (80, 8), (81, 5), (82, 5), (83, 120), (84, 20), (85, 380), (86, 900), (87, 30), (88, 30), (89, 120), (90, 175000), (91, 175000), (92, 175000), (93, 200), (94, 4099), (95, 60000), (96, 60000), (97, 60000), (98, 60000), (99, 7776), (100, 300), (101, 40), (102, 40), (103, 1)]
def ltR : List (Nat × Nat × Nat) := [(1, 0, 2), (1, 1, 4), (1, 2, 5), (1, 3, 11), (1, 4, 14), (1, 5, 18), (1, 6, 28), (1, 7, 38), (1, 14, 65), (2, 0, 3), (4, 0, 2), (5, 0, 6), (5, 1, 7), (5, 3, 8), (5, 4, 9), (5, 5, 10), (11, 0, 12), (11, 1, 13), (14, 0, 15), (14, 1, 16), (14, 2, 17), (18, 0, 11), (18, 1, 5), (18, 2, 19), (18, 3, 20), (18, 4, 21), (18, 5, 22), (18, 6, 23), (18, 7, 24), (18, 8, 25), (28, 0, 29), (28, 6, 35), (28, 7, 36), (28, 8, 37), (39, 0, 40), (39, 1, 41), (39, 2, 42), (39, 3, 43), (39, 4, 44), (39, 5, 45), (39, 6, 46), (39, 7, 47), (39, 8, 48), (49, 0, 50), (49, 1, 51), (49, 2, 52), (49, 3, 53), (49, 4, 54), (49, 5, 55), (49, 6, 56), (49, 7, 57), (49, 8, 58), (59, 0, 60), (59, 1, 61), (62, 0, 63), (62, 1, 64), (66, 1, 67), (66, 4, 68), (66, 5, 69), (66, 6, 70), (66, 9, 71), (66, 10, 72), (66, 11, 73), (66, 12, 74), (66, 13, 75), (66, 14, 76), (66, 18, 77), (66, 19, 78), (66, 22, 79), (66, 23, 80), (66, 24, 81), (66, 25, 82), (66, 28, 83), (66, 30, 84), (66, 32, 85), (66, 33, 86), (66, 34, 87), (66, 35, 88), (66, 36, 89), (66, 39, 90), (66, 40, 91), (66, 41, 92), (66, 42, 93), (66, 44, 94), (66, 45, 95), (66, 46, 96), (66, 47, 97), (66, 48, 98), (66, 49, 99), (66, 51, 100), (66, 55, 101), (66, 56, 102)]
def ltG : List (Nat × Nat × Nat × Nat) := [(18, 9, 1, 26), (18, 10, 1, 27), (28, 1, 0, 30), (28, 2, 0, 31), (28, 3, 0, 32), (28, 4, 0, 33), (28, 5, 0, 34)]
/-- arrays that may be made anew: (thing, field, kind, the first one) -/
def LayG (Y : RT) (q : Nat × Nat × Nat × Nat) : Prop := Y.2.2.1 (Y.1 q.1 q.2.1) = 100 + q.2.2.1 ∧ (Y.1 q.1 q.2.1 = q.2.2.2 ∨ 104 ≤ Y.1 q.1 q.2.1) ∧ Y.1 q.1 q.2.1 < Y.2.2.2.1
def Lay (Y : RT) : Prop := (∀ q ∈ ltK, Y.2.2.1 q.1 = q.2) ∧ (∀ q ∈ ltN, Y.2.1 q.1 = q.2) ∧ (∀ q ∈ ltR, Y.1 q.1 q.2.1 = q.2.2) ∧ 104 ≤ Y.2.2.2.1 ∧
  ((Y.1 1 8 = 39 ∧ Y.1 1 9 = 49) ∨ (Y.1 1 8 = 49 ∧ Y.1 1 9 = 39)) ∧ ((Y.1 1 10 = 59 ∧ Y.1 1 11 = 62) ∨ (Y.1 1 10 = 62 ∧ Y.1 1 11 = 59)) ∧
  (∀ q ∈ ltG, LayG Y q) ∧ (∀ p ∈ ltG, ∀ q ∈ ltG, Y.1 p.1 p.2.1 = Y.1 q.1 q.2.1 → p = q)
theorem lo_1 {G : St} (h : Lay G.2.2) : Ob G 1 10 := ⟨h.1 (1, 10) (by decide), by decide, Nat.lt_of_lt_of_le (by decide) h.2.2.2.1⟩
theorem lo_2 {G : St} (h : Lay G.2.2) : Ob G 2 7 := ⟨h.1 (2, 7) (by decide), by decide, Nat.lt_of_lt_of_le (by decide) h.2.2.2.1⟩
theorem la_3 {G : St} (h : Lay G.2.2) : Ar G 3 2 1000 := ⟨h.1 (3, 102) (by decide), by decide, Nat.lt_of_lt_of_le (by decide) h.2.2.2.1, h.2.1 (3, 1000) (by decide)⟩
theorem lo_4 {G : St} (h : Lay G.2.2) : Ob G 4 5 := ⟨h.1 (4, 5) (by decide), by decide, Nat.lt_of_lt_of_le (by decide) h.2.2.2.1⟩
theorem lo_5 {G : St} (h : Lay G.2.2) : Ob G 5 0 := ⟨h.1 (5, 0) (by decide), by decide, Nat.lt_of_lt_of_le (by decide) h.2.2.2.1⟩
theorem la_6 {G : St} (h : Lay G.2.2) : Ar G 6 0 120 := ⟨h.1 (6, 100) (by decide), by decide, Nat.lt_of_lt_of_le (by decide) h.2.2.2.1, h.2.1 (6, 120) (by decide)⟩
theorem la_7 {G : St} (h : Lay G.2.2) : Ar G 7 1 120 := ⟨h.1 (7, 101) (by decide), by decide, Nat.lt_of_lt_of_le (by decide) h.2.2.2.1, h.2.1 (7, 120) (by decide)⟩
theorem la_8 {G : St} (h : Lay G.2.2) : Ar G 8 0 4 := ⟨h.1 (8, 100) (by decide), by decide, Nat.lt_of_lt_of_le (by decide) h.2.2.2.1, h.2.1 (8, 4) (by decide)⟩
theorem la_9 {G : St} (h : Lay G.2.2) : Ar G 9 0 4 := ⟨h.1 (9, 100) (by decide), by decide, Nat.lt_of_lt_of_le (by decide) h.2.2.2.1, h.2.1 (9, 4) (by decide)⟩
theorem la_10 {G : St} (h : Lay G.2.2) : Ar G 10 0 30 := ⟨h.1 (10, 100) (by decide), by decide, Nat.lt_of_lt_of_le (by decide) h.2.2.2.1, h.2.1 (10, 30) (by decide)⟩
theorem lo_11 {G : St} (h : Lay G.2.2) : Ob G 11 9 := ⟨h.1 (11, 9) (by decide), by decide, Nat.lt_of_lt_of_le (by decide) h.2.2.2.1⟩
theorem la_12 {G : St} (h : Lay G.2.2) : Ar G 12 0 900 := ⟨h.1 (12, 100) (by decide), by decide, Nat.lt_of_lt_of_le (by decide) h.2.2.2.1, h.2.1 (12, 900) (by decide)⟩
theorem la_13 {G : St} (h : Lay G.2.2) : Ar G 13 0 30 := ⟨h.1 (13, 100) (by decide), by decide, Nat.lt_of_lt_of_le (by decide) h.2.2.2.1, h.2.1 (13, 30) (by decide)⟩
theorem lo_14 {G : St} (h : Lay G.2.2) : Ob G 14 2 := ⟨h.1 (14, 2) (by decide), by decide, Nat.lt_of_lt_of_le (by decide) h.2.2.2.1⟩
theorem la_15 {G : St} (h : Lay G.2.2) : Ar G 15 0 400 := ⟨h.1 (15, 100) (by decide), by decide, Nat.lt_of_lt_of_le (by decide) h.2.2.2.1, h.2.1 (15, 400) (by decide)⟩
theorem la_16 {G : St} (h : Lay G.2.2) : Ar G 16 0 20 := ⟨h.1 (16, 100) (by decide), by decide, Nat.lt_of_lt_of_le (by decide) h.2.2.2.1, h.2.1 (16, 20) (by decide)⟩
theorem la_17 {G : St} (h : Lay G.2.2) : Ar G 17 3 20 := ⟨h.1 (17, 103) (by decide), by decide, Nat.lt_of_lt_of_le (by decide) h.2.2.2.1, h.2.1 (17, 20) (by decide)⟩
theorem lo_18 {G : St} (h : Lay G.2.2) : Ob G 18 6 := ⟨h.1 (18, 6) (by decide), by decide, Nat.lt_of_lt_of_le (by decide) h.2.2.2.1⟩
theorem la_19 {G : St} (h : Lay G.2.2) : Ar G 19 0 30 := ⟨h.1 (19, 100) (by decide), by decide, Nat.lt_of_lt_of_le (by decide) h.2.2.2.1, h.2.1 (19, 30) (by decide)⟩
theorem la_20 {G : St} (h : Lay G.2.2) : Ar G 20 0 6 := ⟨h.1 (20, 100) (by decide), by decide, Nat.lt_of_lt_of_le (by decide) h.2.2.2.1, h.2.1 (20, 6) (by decide)⟩
theorem la_21 {G : St} (h : Lay G.2.2) : Ar G 21 0 30 := ⟨h.1 (21, 100) (by decide), by decide, Nat.lt_of_lt_of_le (by decide) h.2.2.2.1, h.2.1 (21, 30) (by decide)⟩
theorem la_22 {G : St} (h : Lay G.2.2) : Ar G 22 0 6 := ⟨h.1 (22, 100) (by decide), by decide, Nat.lt_of_lt_of_le (by decide) h.2.2.2.1, h.2.1 (22, 6) (by decide)⟩
theorem la_23 {G : St} (h : Lay G.2.2) : Ar G 23 0 65 := ⟨h.1 (23, 100) (by decide), by decide, Nat.lt_of_lt_of_le (by decide) h.2.2.2.1, h.2.1 (23, 65) (by decide)⟩
theorem la_24 {G : St} (h : Lay G.2.2) : Ar G 24 0 64 := ⟨h.1 (24, 100) (by decide), by decide, Nat.lt_of_lt_of_le (by decide) h.2.2.2.1, h.2.1 (24, 64) (by decide)⟩
theorem la_25 {G : St} (h : Lay G.2.2) : Ar G 25 0 64 := ⟨h.1 (25, 100) (by decide), by decide, Nat.lt_of_lt_of_le (by decide) h.2.2.2.1, h.2.1 (25, 64) (by decide)⟩
theorem lo_28 {G : St} (h : Lay G.2.2) : Ob G 28 4 := ⟨h.1 (28, 4) (by decide), by decide, Nat.lt_of_lt_of_le (by decide) h.2.2.2.1⟩
theorem la_29 {G : St} (h : Lay G.2.2) : Ar G 29 0 64 := ⟨h.1 (29, 100) (by decide), by decide, Nat.lt_of_lt_of_le (by decide) h.2.2.2.1, h.2.1 (29, 64) (by decide)⟩
theorem la_35 {G : St} (h : Lay G.2.2) : Ar G 35 0 251 := ⟨h.1 (35, 100) (by decide), by decide, Nat.lt_of_lt_of_le (by decide) h.2.2.2.1, h.2.1 (35, 251) (by decide)⟩
theorem la_36 {G : St} (h : Lay G.2.2) : Ar G 36 0 251 := ⟨h.1 (36, 100) (by decide), by decide, Nat.lt_of_lt_of_le (by decide) h.2.2.2.1, h.2.1 (36, 251) (by decide)⟩
theorem la_37 {G : St} (h : Lay G.2.2) : Ar G 37 2 200 := ⟨h.1 (37, 102) (by decide), by decide, Nat.lt_of_lt_of_le (by decide) h.2.2.2.1, h.2.1 (37, 200) (by decide)⟩
theorem lo_38 {G : St} (h : Lay G.2.2) : Ob G 38 3 := ⟨h.1 (38, 3) (by decide), by decide, Nat.lt_of_lt_of_le (by decide) h.2.2.2.1⟩
theorem lo_39 {G : St} (h : Lay G.2.2) : Ob G 39 1 := ⟨h.1 (39, 1) (by decide), by decide, Nat.lt_of_lt_of_le (by decide) h.2.2.2.1⟩
theorem la_40 {G : St} (h : Lay G.2.2) : Ar G 40 1 5 := ⟨h.1 (40, 101) (by decide), by decide, Nat.lt_of_lt_of_le (by decide) h.2.2.2.1, h.2.1 (40, 5) (by decide)⟩
theorem la_41 {G : St} (h : Lay G.2.2) : Ar G 41 0 5 := ⟨h.1 (41, 100) (by decide), by decide, Nat.lt_of_lt_of_le (by decide) h.2.2.2.1, h.2.1 (41, 5) (by decide)⟩
theorem la_42 {G : St} (h : Lay G.2.2) : Ar G 42 1 20 := ⟨h.1 (42, 101) (by decide), by decide, Nat.lt_of_lt_of_le (by decide) h.2.2.2.1, h.2.1 (42, 20) (by decide)⟩
theorem la_43 {G : St} (h : Lay G.2.2) : Ar G 43 0 20 := ⟨h.1 (43, 100) (by decide), by decide, Nat.lt_of_lt_of_le (by decide) h.2.2.2.1, h.2.1 (43, 20) (by decide)⟩
theorem la_44 {G : St} (h : Lay G.2.2) : Ar G 44 0 30 := ⟨h.1 (44, 100) (by decide), by decide, Nat.lt_of_lt_of_le (by decide) h.2.2.2.1, h.2.1 (44, 30) (by decide)⟩
theorem la_45 {G : St} (h : Lay G.2.2) : Ar G 45 0 30 := ⟨h.1 (45, 100) (by decide), by decide, Nat.lt_of_lt_of_le (by decide) h.2.2.2.1, h.2.1 (45, 30) (by decide)⟩
theorem la_46 {G : St} (h : Lay G.2.2) : Ar G 46 0 5 := ⟨h.1 (46, 100) (by decide), by decide, Nat.lt_of_lt_of_le (by decide) h.2.2.2.1, h.2.1 (46, 5) (by decide)⟩
theorem la_47 {G : St} (h : Lay G.2.2) : Ar G 47 1 120 := ⟨h.1 (47, 101) (by decide), by decide, Nat.lt_of_lt_of_le (by decide) h.2.2.2.1, h.2.1 (47, 120) (by decide)⟩
theorem la_48 {G : St} (h : Lay G.2.2) : Ar G 48 0 4 := ⟨h.1 (48, 100) (by decide), by decide, Nat.lt_of_lt_of_le (by decide) h.2.2.2.1, h.2.1 (48, 4) (by decide)⟩
theorem lo_49 {G : St} (h : Lay G.2.2) : Ob G 49 1 := ⟨h.1 (49, 1) (by decide), by decide, Nat.lt_of_lt_of_le (by decide) h.2.2.2.1⟩
theorem la_50 {G : St} (h : Lay G.2.2) : Ar G 50 1 5 := ⟨h.1 (50, 101) (by decide), by decide, Nat.lt_of_lt_of_le (by decide) h.2.2.2.1, h.2.1 (50, 5) (by decide)⟩
theorem la_51 {G : St} (h : Lay G.2.2) : Ar G 51 0 5 := ⟨h.1 (51, 100) (by decide), by decide, Nat.lt_of_lt_of_le (by decide) h.2.2.2.1, h.2.1 (51, 5) (by decide)⟩
theorem la_52 {G : St} (h : Lay G.2.2) : Ar G 52 1 20 := ⟨h.1 (52, 101) (by decide), by decide, Nat.lt_of_lt_of_le (by decide) h.2.2.2.1, h.2.1 (52, 20) (by decide)⟩
theorem la_53 {G : St} (h : Lay G.2.2) : Ar G 53 0 20 := ⟨h.1 (53, 100) (by decide), by decide, Nat.lt_of_lt_of_le (by decide) h.2.2.2.1, h.2.1 (53, 20) (by decide)⟩
theorem la_54 {G : St} (h : Lay G.2.2) : Ar G 54 0 30 := ⟨h.1 (54, 100) (by decide), by decide, Nat.lt_of_lt_of_le (by decide) h.2.2.2.1, h.2.1 (54, 30) (by decide)⟩
theorem la_55 {G : St} (h : Lay G.2.2) : Ar G 55 0 30 := ⟨h.1 (55, 100) (by decide), by decide, Nat.lt_of_lt_of_le (by decide) h.2.2.2.1, h.2.1 (55, 30) (by decide)⟩
theorem la_56 {G : St} (h : Lay G.2.2) : Ar G 56 0 5 := ⟨h.1 (56, 100) (by decide), by decide, Nat.lt_of_lt_of_le (by decide) h.2.2.2.1, h.2.1 (56, 5) (by decide)⟩
theorem la_57 {G : St} (h : Lay G.2.2) : Ar G 57 1 120 := ⟨h.1 (57, 101) (by decide), by decide, Nat.lt_of_lt_of_le (by decide) h.2.2.2.1, h.2.1 (57, 120) (by decide)⟩
theorem la_58 {G : St} (h : Lay G.2.2) : Ar G 58 0 4 := ⟨h.1 (58, 100) (by decide), by decide, Nat.lt_of_lt_of_le (by decide) h.2.2.2.1, h.2.1 (58, 4) (by decide)⟩
theorem lo_59 {G : St} (h : Lay G.2.2) : Ob G 59 8 := ⟨h.1 (59, 8) (by decide), by decide, Nat.lt_of_lt_of_le (by decide) h.2.2.2.1⟩
theorem la_60 {G : St} (h : Lay G.2.2) : Ar G 60 0 4 := ⟨h.1 (60, 100) (by decide), by decide, Nat.lt_of_lt_of_le (by decide) h.2.2.2.1, h.2.1 (60, 4) (by decide)⟩
theorem la_61 {G : St} (h : Lay G.2.2) : Ar G 61 1 4 := ⟨h.1 (61, 101) (by decide), by decide, Nat.lt_of_lt_of_le (by decide) h.2.2.2.1, h.2.1 (61, 4) (by decide)⟩
theorem lo_62 {G : St} (h : Lay G.2.2) : Ob G 62 8 := ⟨h.1 (62, 8) (by decide), by decide, Nat.lt_of_lt_of_le (by decide) h.2.2.2.1⟩
theorem la_63 {G : St} (h : Lay G.2.2) : Ar G 63 0 4 := ⟨h.1 (63, 100) (by decide), by decide, Nat.lt_of_lt_of_le (by decide) h.2.2.2.1, h.2.1 (63, 4) (by decide)⟩
theorem la_64 {G : St} (h : Lay G.2.2) : Ar G 64 1 4 := ⟨h.1 (64, 101) (by decide), by decide, Nat.lt_of_lt_of_le (by decide) h.2.2.2.1, h.2.1 (64, 4) (by decide)⟩
theorem la_65 {G : St} (h : Lay G.2.2) : Ar G 65 0 3 := ⟨h.1 (65, 100) (by decide), by decide, Nat.lt_of_lt_of_le (by decide) h.2.2.2.1, h.2.1 (65, 3) (by decide)⟩
theorem lo_66 {G : St} (h : Lay G.2.2) : Ob G 66 11 := ⟨h.1 (66, 11) (by decide), by decide, Nat.lt_of_lt_of_le (by decide) h.2.2.2.1⟩
theorem la_67 {G : St} (h : Lay G.2.2) : Ar G 67 0 1000 := ⟨h.1 (67, 100) (by decide), by decide, Nat.lt_of_lt_of_le (by decide) h.2.2.2.1, h.2.1 (67, 1000) (by decide)⟩
theorem la_68 {G : St} (h : Lay G.2.2) : Ar G 68 0 1002 := ⟨h.1 (68, 100) (by decide), by decide, Nat.lt_of_lt_of_le (by decide) h.2.2.2.1, h.2.1 (68, 1002) (by decide)⟩
theorem la_69 {G : St} (h : Lay G.2.2) : Ar G 69 0 1002 := ⟨h.1 (69, 100) (by decide), by decide, Nat.lt_of_lt_of_le (by decide) h.2.2.2.1, h.2.1 (69, 1002) (by decide)⟩
theorem la_70 {G : St} (h : Lay G.2.2) : Ar G 70 1 1002 := ⟨h.1 (70, 101) (by decide), by decide, Nat.lt_of_lt_of_le (by decide) h.2.2.2.1, h.2.1 (70, 1002) (by decide)⟩
theorem la_71 {G : St} (h : Lay G.2.2) : Ar G 71 1 8 := ⟨h.1 (71, 101) (by decide), by decide, Nat.lt_of_lt_of_le (by decide) h.2.2.2.1, h.2.1 (71, 8) (by decide)⟩
theorem la_72 {G : St} (h : Lay G.2.2) : Ar G 72 0 2 := ⟨h.1 (72, 100) (by decide), by decide, Nat.lt_of_lt_of_le (by decide) h.2.2.2.1, h.2.1 (72, 2) (by decide)⟩
theorem la_73 {G : St} (h : Lay G.2.2) : Ar G 73 1 10 := ⟨h.1 (73, 101) (by decide), by decide, Nat.lt_of_lt_of_le (by decide) h.2.2.2.1, h.2.1 (73, 10) (by decide)⟩
theorem la_74 {G : St} (h : Lay G.2.2) : Ar G 74 0 10 := ⟨h.1 (74, 100) (by decide), by decide, Nat.lt_of_lt_of_le (by decide) h.2.2.2.1, h.2.1 (74, 10) (by decide)⟩
theorem la_75 {G : St} (h : Lay G.2.2) : Ar G 75 1 40 := ⟨h.1 (75, 101) (by decide), by decide, Nat.lt_of_lt_of_le (by decide) h.2.2.2.1, h.2.1 (75, 40) (by decide)⟩
theorem la_76 {G : St} (h : Lay G.2.2) : Ar G 76 0 40 := ⟨h.1 (76, 100) (by decide), by decide, Nat.lt_of_lt_of_le (by decide) h.2.2.2.1, h.2.1 (76, 40) (by decide)⟩
theorem la_77 {G : St} (h : Lay G.2.2) : Ar G 77 0 31 := ⟨h.1 (77, 100) (by decide), by decide, Nat.lt_of_lt_of_le (by decide) h.2.2.2.1, h.2.1 (77, 31) (by decide)⟩
theorem la_78 {G : St} (h : Lay G.2.2) : Ar G 78 1 124 := ⟨h.1 (78, 101) (by decide), by decide, Nat.lt_of_lt_of_le (by decide) h.2.2.2.1, h.2.1 (78, 124) (by decide)⟩
theorem la_79 {G : St} (h : Lay G.2.2) : Ar G 79 0 8 := ⟨h.1 (79, 100) (by decide), by decide, Nat.lt_of_lt_of_le (by decide) h.2.2.2.1, h.2.1 (79, 8) (by decide)⟩
theorem la_80 {G : St} (h : Lay G.2.2) : Ar G 80 1 8 := ⟨h.1 (80, 101) (by decide), by decide, Nat.lt_of_lt_of_le (by decide) h.2.2.2.1, h.2.1 (80, 8) (by decide)⟩
theorem la_81 {G : St} (h : Lay G.2.2) : Ar G 81 0 5 := ⟨h.1 (81, 100) (by decide), by decide, Nat.lt_of_lt_of_le (by decide) h.2.2.2.1, h.2.1 (81, 5) (by decide)⟩
theorem la_82 {G : St} (h : Lay G.2.2) : Ar G 82 0 5 := ⟨h.1 (82, 100) (by decide), by decide, Nat.lt_of_lt_of_le (by decide) h.2.2.2.1, h.2.1 (82, 5) (by decide)⟩
theorem la_83 {G : St} (h : Lay G.2.2) : Ar G 83 3 120 := ⟨h.1 (83, 103) (by decide), by decide, Nat.lt_of_lt_of_le (by decide) h.2.2.2.1, h.2.1 (83, 120) (by decide)⟩
theorem la_84 {G : St} (h : Lay G.2.2) : Ar G 84 0 20 := ⟨h.1 (84, 100) (by decide), by decide, Nat.lt_of_lt_of_le (by decide) h.2.2.2.1, h.2.1 (84, 20) (by decide)⟩
theorem la_85 {G : St} (h : Lay G.2.2) : Ar G 85 0 380 := ⟨h.1 (85, 100) (by decide), by decide, Nat.lt_of_lt_of_le (by decide) h.2.2.2.1, h.2.1 (85, 380) (by decide)⟩
theorem la_86 {G : St} (h : Lay G.2.2) : Ar G 86 0 900 := ⟨h.1 (86, 100) (by decide), by decide, Nat.lt_of_lt_of_le (by decide) h.2.2.2.1, h.2.1 (86, 900) (by decide)⟩
theorem la_87 {G : St} (h : Lay G.2.2) : Ar G 87 0 30 := ⟨h.1 (87, 100) (by decide), by decide, Nat.lt_of_lt_of_le (by decide) h.2.2.2.1, h.2.1 (87, 30) (by decide)⟩
theorem la_88 {G : St} (h : Lay G.2.2) : Ar G 88 0 30 := ⟨h.1 (88, 100) (by decide), by decide, Nat.lt_of_lt_of_le (by decide) h.2.2.2.1, h.2.1 (88, 30) (by decide)⟩
theorem la_89 {G : St} (h : Lay G.2.2) : Ar G 89 0 120 := ⟨h.1 (89, 100) (by decide), by decide, Nat.lt_of_lt_of_le (by decide) h.2.2.2.1, h.2.1 (89, 120) (by decide)⟩
theorem la_90 {G : St} (h : Lay G.2.2) : Ar G 90 0 175000 := ⟨h.1 (90, 100) (by decide), by decide, Nat.lt_of_lt_of_le (by decide) h.2.2.2.1, h.2.1 (90, 175000) (by decide)⟩
theorem la_91 {G : St} (h : Lay G.2.2) : Ar G 91 0 175000 := ⟨h.1 (91, 100) (by decide), by decide, Nat.lt_of_lt_of_le (by decide) h.2.2.2.1, h.2.1 (91, 175000) (by decide)⟩
theorem la_92 {G : St} (h : Lay G.2.2) : Ar G 92 0 175000 := ⟨h.1 (92, 100) (by decide), by decide, Nat.lt_of_lt_of_le (by decide) h.2.2.2.1, h.2.1 (92, 175000) (by decide)⟩
theorem la_93 {G : St} (h : Lay G.2.2) : Ar G 93 0 200 := ⟨h.1 (93, 100) (by decide), by decide, Nat.lt_of_lt_of_le (by decide) h.2.2.2.1, h.2.1 (93, 200) (by decide)⟩
theorem la_94 {G : St} (h : Lay G.2.2) : Ar G 94 0 4099 := ⟨h.1 (94, 100) (by decide), by decide, Nat.lt_of_lt_of_le (by decide) h.2.2.2.1, h.2.1 (94, 4099) (by decide)⟩
theorem la_95 {G : St} (h : Lay G.2.2) : Ar G 95 0 60000 := ⟨h.1 (95, 100) (by decide), by decide, Nat.lt_of_lt_of_le (by decide) h.2.2.2.1, h.2.1 (95, 60000) (by decide)⟩
theorem la_96 {G : St} (h : Lay G.2.2) : Ar G 96 0 60000 := ⟨h.1 (96, 100) (by decide), by decide, Nat.lt_of_lt_of_le (by decide) h.2.2.2.1, h.2.1 (96, 60000) (by decide)⟩
theorem la_97 {G : St} (h : Lay G.2.2) : Ar G 97 0 60000 := ⟨h.1 (97, 100) (by decide), by decide, Nat.lt_of_lt_of_le (by decide) h.2.2.2.1, h.2.1 (97, 60000) (by decide)⟩
theorem la_98 {G : St} (h : Lay G.2.2) : Ar G 98 0 60000 := ⟨h.1 (98, 100) (by decide), by decide, Nat.lt_of_lt_of_le (by decide) h.2.2.2.1, h.2.1 (98, 60000) (by decide)⟩
theorem la_99 {G : St} (h : Lay G.2.2) : Ar G 99 0 7776 := ⟨h.1 (99, 100) (by decide), by decide, Nat.lt_of_lt_of_le (by decide) h.2.2.2.1, h.2.1 (99, 7776) (by decide)⟩
theorem la_100 {G : St} (h : Lay G.2.2) : Ar G 100 0 300 := ⟨h.1 (100, 100) (by decide), by decide, Nat.lt_of_lt_of_le (by decide) h.2.2.2.1, h.2.1 (100, 300) (by decide)⟩
theorem la_101 {G : St} (h : Lay G.2.2) : Ar G 101 3 40 := ⟨h.1 (101, 103) (by decide), by decide, Nat.lt_of_lt_of_le (by decide) h.2.2.2.1, h.2.1 (101, 40) (by decide)⟩
theorem la_102 {G : St} (h : Lay G.2.2) : Ar G 102 3 40 := ⟨h.1 (102, 103) (by decide), by decide, Nat.lt_of_lt_of_le (by decide) h.2.2.2.1, h.2.1 (102, 40) (by decide)⟩
theorem la_103 {G : St} (h : Lay G.2.2) : Ar G 103 1 1 := ⟨h.1 (103, 101) (by decide), by decide, Nat.lt_of_lt_of_le (by decide) h.2.2.2.1, h.2.1 (103, 1) (by decide)⟩
theorem lr_1_0 {G : St} (h : Lay G.2.2) : sR G 1 0 = 2 := h.2.2.1 (1, 0, 2) (by decide)
theorem lr_1_1 {G : St} (h : Lay G.2.2) : sR G 1 1 = 4 := h.2.2.1 (1, 1, 4) (by decide)
theorem lr_1_2 {G : St} (h : Lay G.2.2) : sR G 1 2 = 5 := h.2.2.1 (1, 2, 5) (by decide)
theorem lr_1_3 {G : St} (h : Lay G.2.2) : sR G 1 3 = 11 := h.2.2.1 (1, 3, 11) (by decide)
theorem lr_1_4 {G : St} (h : Lay G.2.2) : sR G 1 4 = 14 := h.2.2.1 (1, 4, 14) (by decide)
theorem lr_1_5 {G : St} (h : Lay G.2.2) : sR G 1 5 = 18 := h.2.2.1 (1, 5, 18) (by decide)
theorem lr_1_6 {G : St} (h : Lay G.2.2) : sR G 1 6 = 28 := h.2.2.1 (1, 6, 28) (by decide)
theorem lr_1_7 {G : St} (h : Lay G.2.2) : sR G 1 7 = 38 := h.2.2.1 (1, 7, 38) (by decide)
theorem lr_1_14 {G : St} (h : Lay G.2.2) : sR G 1 14 = 65 := h.2.2.1 (1, 14, 65) (by decide)
theorem lr_2_0 {G : St} (h : Lay G.2.2) : sR G 2 0 = 3 := h.2.2.1 (2, 0, 3) (by decide)
theorem lr_4_0 {G : St} (h : Lay G.2.2) : sR G 4 0 = 2 := h.2.2.1 (4, 0, 2) (by decide)
theorem lr_5_0 {G : St} (h : Lay G.2.2) : sR G 5 0 = 6 := h.2.2.1 (5, 0, 6) (by decide)
theorem lr_5_1 {G : St} (h : Lay G.2.2) : sR G 5 1 = 7 := h.2.2.1 (5, 1, 7) (by decide)
theorem lr_5_3 {G : St} (h : Lay G.2.2) : sR G 5 3 = 8 := h.2.2.1 (5, 3, 8) (by decide)
theorem lr_5_4 {G : St} (h : Lay G.2.2) : sR G 5 4 = 9 := h.2.2.1 (5, 4, 9) (by decide)
theorem lr_5_5 {G : St} (h : Lay G.2.2) : sR G 5 5 = 10 := h.2.2.1 (5, 5, 10) (by decide)
theorem lr_11_0 {G : St} (h : Lay G.2.2) : sR G 11 0 = 12 := h.2.2.1 (11, 0, 12) (by decide)
theorem lr_11_1 {G : St} (h : Lay G.2.2) : sR G 11 1 = 13 := h.2.2.1 (11, 1, 13) (by decide)
theorem lr_14_0 {G : St} (h : Lay G.2.2) : sR G 14 0 = 15 := h.2.2.1 (14, 0, 15) (by decide)
theorem lr_14_1 {G : St} (h : Lay G.2.2) : sR G 14 1 = 16 := h.2.2.1 (14, 1, 16) (by decide)
theorem lr_14_2 {G : St} (h : Lay G.2.2) : sR G 14 2 = 17 := h.2.2.1 (14, 2, 17) (by decide)
theorem lr_18_0 {G : St} (h : Lay G.2.2) : sR G 18 0 = 11 := h.2.2.1 (18, 0, 11) (by decide)
theorem lr_18_1 {G : St} (h : Lay G.2.2) : sR G 18 1 = 5 := h.2.2.1 (18, 1, 5) (by decide)
theorem lr_18_2 {G : St} (h : Lay G.2.2) : sR G 18 2 = 19 := h.2.2.1 (18, 2, 19) (by decide)
theorem lr_18_3 {G : St} (h : Lay G.2.2) : sR G 18 3 = 20 := h.2.2.1 (18, 3, 20) (by decide)
theorem lr_18_4 {G : St} (h : Lay G.2.2) : sR G 18 4 = 21 := h.2.2.1 (18, 4, 21) (by decide)
theorem lr_18_5 {G : St} (h : Lay G.2.2) : sR G 18 5 = 22 := h.2.2.1 (18, 5, 22) (by decide)
theorem lr_18_6 {G : St} (h : Lay G.2.2) : sR G 18 6 = 23 := h.2.2.1 (18, 6, 23) (by decide)
theorem lr_18_7 {G : St} (h : Lay G.2.2) : sR G 18 7 = 24 := h.2.2.1 (18, 7, 24) (by decide)
theorem lr_18_8 {G : St} (h : Lay G.2.2) : sR G 18 8 = 25 := h.2.2.1 (18, 8, 25) (by decide)
theorem lr_28_0 {G : St} (h : Lay G.2.2) : sR G 28 0 = 29 := h.2.2.1 (28, 0, 29) (by decide)
theorem lr_28_6 {G : St} (h : Lay G.2.2) : sR G 28 6 = 35 := h.2.2.1 (28, 6, 35) (by decide)
theorem lr_28_7 {G : St} (h : Lay G.2.2) : sR G 28 7 = 36 := h.2.2.1 (28, 7, 36) (by decide)
theorem lr_28_8 {G : St} (h : Lay G.2.2) : sR G 28 8 = 37 := h.2.2.1 (28, 8, 37) (by decide)
theorem lr_39_0 {G : St} (h : Lay G.2.2) : sR G 39 0 = 40 := h.2.2.1 (39, 0, 40) (by decide)
theorem lr_39_1 {G : St} (h : Lay G.2.2) : sR G 39 1 = 41 := h.2.2.1 (39, 1, 41) (by decide)
theorem lr_39_2 {G : St} (h : Lay G.2.2) : sR G 39 2 = 42 := h.2.2.1 (39, 2, 42) (by decide)
theorem lr_39_3 {G : St} (h : Lay G.2.2) : sR G 39 3 = 43 := h.2.2.1 (39, 3, 43) (by decide)
theorem lr_39_4 {G : St} (h : Lay G.2.2) : sR G 39 4 = 44 := h.2.2.1 (39, 4, 44) (by decide)
theorem lr_39_5 {G : St} (h : Lay G.2.2) : sR G 39 5 = 45 := h.2.2.1 (39, 5, 45) (by decide)
theorem lr_39_6 {G : St} (h : Lay G.2.2) : sR G 39 6 = 46 := h.2.2.1 (39, 6, 46) (by decide)
theorem lr_39_7 {G : St} (h : Lay G.2.2) : sR G 39 7 = 47 := h.2.2.1 (39, 7, 47) (by decide)
theorem lr_39_8 {G : St} (h : Lay G.2.2) : sR G 39 8 = 48 := h.2.2.1 (39, 8, 48) (by decide)
theorem lr_49_0 {G : St} (h : Lay G.2.2) : sR G 49 0 = 50 := h.2.2.1 (49, 0, 50) (by decide)
theorem lr_49_1 {G : St} (h : Lay G.2.2) : sR G 49 1 = 51 := h.2.2.1 (49, 1, 51) (by decide)
theorem lr_49_2 {G : St} (h : Lay G.2.2) : sR G 49 2 = 52 := h.2.2.1 (49, 2, 52) (by decide)
theorem lr_49_3 {G : St} (h : Lay G.2.2) : sR G 49 3 = 53 := h.2.2.1 (49, 3, 53) (by decide)
theorem lr_49_4 {G : St} (h : Lay G.2.2) : sR G 49 4 = 54 := h.2.2.1 (49, 4, 54) (by decide)
theorem lr_49_5 {G : St} (h : Lay G.2.2) : sR G 49 5 = 55 := h.2.2.1 (49, 5, 55) (by decide)
theorem lr_49_6 {G : St} (h : Lay G.2.2) : sR G 49 6 = 56 := h.2.2.1 (49, 6, 56) (by decide)
theorem lr_49_7 {G : St} (h : Lay G.2.2) : sR G 49 7 = 57 := h.2.2.1 (49, 7, 57) (by decide)
theorem lr_49_8 {G : St} (h : Lay G.2.2) : sR G 49 8 = 58 := h.2.2.1 (49, 8, 58) (by decide)
theorem lr_59_0 {G : St} (h : Lay G.2.2) : sR G 59 0 = 60 := h.2.2.1 (59, 0, 60) (by decide)
theorem lr_59_1 {G : St} (h : Lay G.2.2) : sR G 59 1 = 61 := h.2.2.1 (59, 1, 61) (by decide)
theorem lr_62_0 {G : St} (h : Lay G.2.2) : sR G 62 0 = 63 := h.2.2.1 (62, 0, 63) (by decide)
theorem lr_62_1 {G : St} (h : Lay G.2.2) : sR G 62 1 = 64 := h.2.2.1 (62, 1, 64) (by decide)
theorem lr_66_1 {G : St} (h : Lay G.2.2) : sR G 66 1 = 67 := h.2.2.1 (66, 1, 67) (by decide)
theorem lr_66_4 {G : St} (h : Lay G.2.2) : sR G 66 4 = 68 := h.2.2.1 (66, 4, 68) (by decide)
theorem lr_66_5 {G : St} (h : Lay G.2.2) : sR G 66 5 = 69 := h.2.2.1 (66, 5, 69) (by decide)
theorem lr_66_6 {G : St} (h : Lay G.2.2) : sR G 66 6 = 70 := h.2.2.1 (66, 6, 70) (by decide)
theorem lr_66_9 {G : St} (h : Lay G.2.2) : sR G 66 9 = 71 := h.2.2.1 (66, 9, 71) (by decide)
theorem lr_66_10 {G : St} (h : Lay G.2.2) : sR G 66 10 = 72 := h.2.2.1 (66, 10, 72) (by decide)
theorem lr_66_11 {G : St} (h : Lay G.2.2) : sR G 66 11 = 73 := h.2.2.1 (66, 11, 73) (by decide)
theorem lr_66_12 {G : St} (h : Lay G.2.2) : sR G 66 12 = 74 := h.2.2.1 (66, 12, 74) (by decide)
theorem lr_66_13 {G : St} (h : Lay G.2.2) : sR G 66 13 = 75 := h.2.2.1 (66, 13, 75) (by decide)
theorem lr_66_14 {G : St} (h : Lay G.2.2) : sR G 66 14 = 76 := h.2.2.1 (66, 14, 76) (by decide)
theorem lr_66_18 {G : St} (h : Lay G.2.2) : sR G 66 18 = 77 := h.2.2.1 (66, 18, 77) (by decide)
theorem lr_66_19 {G : St} (h : Lay G.2.2) : sR G 66 19 = 78 := h.2.2.1 (66, 19, 78) (by decide)
theorem lr_66_22 {G : St} (h : Lay G.2.2) : sR G 66 22 = 79 := h.2.2.1 (66, 22, 79) (by decide)
theorem lr_66_23 {G : St} (h : Lay G.2.2) : sR G 66 23 = 80 := h.2.2.1 (66, 23, 80) (by decide)
theorem lr_66_24 {G : St} (h : Lay G.2.2) : sR G 66 24 = 81 := h.2.2.1 (66, 24, 81) (by decide)
theorem lr_66_25 {G : St} (h : Lay G.2.2) : sR G 66 25 = 82 := h.2.2.1 (66, 25, 82) (by decide)
theorem lr_66_28 {G : St} (h : Lay G.2.2) : sR G 66 28 = 83 := h.2.2.1 (66, 28, 83) (by decide)
theorem lr_66_30 {G : St} (h : Lay G.2.2) : sR G 66 30 = 84 := h.2.2.1 (66, 30, 84) (by decide)
theorem lr_66_32 {G : St} (h : Lay G.2.2) : sR G 66 32 = 85 := h.2.2.1 (66, 32, 85) (by decide)
theorem lr_66_33 {G : St} (h : Lay G.2.2) : sR G 66 33 = 86 := h.2.2.1 (66, 33, 86) (by decide)
theorem lr_66_34 {G : St} (h : Lay G.2.2) : sR G 66 34 = 87 := h.2.2.1 (66, 34, 87) (by decide)
theorem lr_66_35 {G : St} (h : Lay G.2.2) : sR G 66 35 = 88 := h.2.2.1 (66, 35, 88) (by decide)
theorem lr_66_36 {G : St} (h : Lay G.2.2) : sR G 66 36 = 89 := h.2.2.1 (66, 36, 89) (by decide)
theorem lr_66_39 {G : St} (h : Lay G.2.2) : sR G 66 39 = 90 := h.2.2.1 (66, 39, 90) (by decide)
theorem lr_66_40 {G : St} (h : Lay G.2.2) : sR G 66 40 = 91 := h.2.2.1 (66, 40, 91) (by decide)
theorem lr_66_41 {G : St} (h : Lay G.2.2) : sR G 66 41 = 92 := h.2.2.1 (66, 41, 92) (by decide)
theorem lr_66_42 {G : St} (h : Lay G.2.2) : sR G 66 42 = 93 := h.2.2.1 (66, 42, 93) (by decide)
theorem lr_66_44 {G : St} (h : Lay G.2.2) : sR G 66 44 = 94 := h.2.2.1 (66, 44, 94) (by decide)
theorem lr_66_45 {G : St} (h : Lay G.2.2) : sR G 66 45 = 95 := h.2.2.1 (66, 45, 95) (by decide)
theorem lr_66_46 {G : St} (h : Lay G.2.2) : sR G 66 46 = 96 := h.2.2.1 (66, 46, 96) (by decide)
theorem lr_66_47 {G : St} (h : Lay G.2.2) : sR G 66 47 = 97 := h.2.2.1 (66, 47, 97) (by decide)
theorem lr_66_48 {G : St} (h : Lay G.2.2) : sR G 66 48 = 98 := h.2.2.1 (66, 48, 98) (by decide)
theorem lr_66_49 {G : St} (h : Lay G.2.2) : sR G 66 49 = 99 := h.2.2.1 (66, 49, 99) (by decide)
theorem lr_66_51 {G : St} (h : Lay G.2.2) : sR G 66 51 = 100 := h.2.2.1 (66, 51, 100) (by decide)
theorem lr_66_55 {G : St} (h : Lay G.2.2) : sR G 66 55 = 101 := h.2.2.1 (66, 55, 101) (by decide)
theorem lr_66_56 {G : St} (h : Lay G.2.2) : sR G 66 56 = 102 := h.2.2.1 (66, 56, 102) (by decide)
theorem lg_18_9 {G : St} (h : Lay G.2.2) : Ar G (sR G 18 9) 1 (sN G (sR G 18 9)) := ⟨(h.2.2.2.2.2.2.1 (18, 9, 1, 26) (by decide)).1, (by have q := (h.2.2.2.2.2.2.1 (18, 9, 1, 26) (by decide)).2.1; show 0 < G.2.2.1 18 9; have q : G.2.2.1 18 9 = 26 ∨ 104 ≤ G.2.2.1 18 9 := q; omega), (h.2.2.2.2.2.2.1 (18, 9, 1, 26) (by decide)).2.2, rfl⟩
theorem lg_18_10 {G : St} (h : Lay G.2.2) : Ar G (sR G 18 10) 1 (sN G (sR G 18 10)) := ⟨(h.2.2.2.2.2.2.1 (18, 10, 1, 27) (by decide)).1, (by have q := (h.2.2.2.2.2.2.1 (18, 10, 1, 27) (by decide)).2.1; show 0 < G.2.2.1 18 10; have q : G.2.2.1 18 10 = 27 ∨ 104 ≤ G.2.2.1 18 10 := q; omega), (h.2.2.2.2.2.2.1 (18, 10, 1, 27) (by decide)).2.2, rfl⟩
theorem lg_28_1 {G : St} (h : Lay G.2.2) : Ar G (sR G 28 1) 0 (sN G (sR G 28 1)) := ⟨(h.2.2.2.2.2.2.1 (28, 1, 0, 30) (by decide)).1, (by have q := (h.2.2.2.2.2.2.1 (28, 1, 0, 30) (by decide)).2.1; show 0 < G.2.2.1 28 1; have q : G.2.2.1 28 1 = 30 ∨ 104 ≤ G.2.2.1 28 1 := q; omega), (h.2.2.2.2.2.2.1 (28, 1, 0, 30) (by decide)).2.2, rfl⟩
theorem lg_28_2 {G : St} (h : Lay G.2.2) : Ar G (sR G 28 2) 0 (sN G (sR G 28 2)) := ⟨(h.2.2.2.2.2.2.1 (28, 2, 0, 31) (by decide)).1, (by have q := (h.2.2.2.2.2.2.1 (28, 2, 0, 31) (by decide)).2.1; show 0 < G.2.2.1 28 2; have q : G.2.2.1 28 2 = 31 ∨ 104 ≤ G.2.2.1 28 2 := q; omega), (h.2.2.2.2.2.2.1 (28, 2, 0, 31) (by decide)).2.2, rfl⟩
theorem lg_28_3 {G : St} (h : Lay G.2.2) : Ar G (sR G 28 3) 0 (sN G (sR G 28 3)) := ⟨(h.2.2.2.2.2.2.1 (28, 3, 0, 32) (by decide)).1, (by have q := (h.2.2.2.2.2.2.1 (28, 3, 0, 32) (by decide)).2.1; show 0 < G.2.2.1 28 3; have q : G.2.2.1 28 3 = 32 ∨ 104 ≤ G.2.2.1 28 3 := q; omega), (h.2.2.2.2.2.2.1 (28, 3, 0, 32) (by decide)).2.2, rfl⟩
theorem lg_28_4 {G : St} (h : Lay G.2.2) : Ar G (sR G 28 4) 0 (sN G (sR G 28 4)) := ⟨(h.2.2.2.2.2.2.1 (28, 4, 0, 33) (by decide)).1, (by have q := (h.2.2.2.2.2.2.1 (28, 4, 0, 33) (by decide)).2.1; show 0 < G.2.2.1 28 4; have q : G.2.2.1 28 4 = 33 ∨ 104 ≤ G.2.2.1 28 4 := q; omega), (h.2.2.2.2.2.2.1 (28, 4, 0, 33) (by decide)).2.2, rfl⟩
theorem lg_28_5 {G : St} (h : Lay G.2.2) : Ar G (sR G 28 5) 0 (sN G (sR G 28 5)) := ⟨(h.2.2.2.2.2.2.1 (28, 5, 0, 34) (by decide)).1, (by have q := (h.2.2.2.2.2.2.1 (28, 5, 0, 34) (by decide)).2.1; show 0 < G.2.2.1 28 5; have q : G.2.2.1 28 5 = 34 ∨ 104 ≤ G.2.2.1 28 5 := q; omega), (h.2.2.2.2.2.2.1 (28, 5, 0, 34) (by decide)).2.2, rfl⟩
theorem ly_8 {G : St} (h : Lay G.2.2) : sR G 1 8 = 39 ∨ sR G 1 8 = 49 := h.2.2.2.2.1.elim (fun q => Or.inl q.1) (fun q => Or.inr q.1)
theorem ly_9 {G : St} (h : Lay G.2.2) : sR G 1 9 = 39 ∨ sR G 1 9 = 49 := h.2.2.2.2.1.elim (fun q => Or.inr q.2) (fun q => Or.inl q.2)
theorem ly_10 {G : St} (h : Lay G.2.2) : sR G 1 10 = 59 ∨ sR G 1 10 = 62 := h.2.2.2.2.2.1.elim (fun q => Or.inl q.1) (fun q => Or.inr q.1)
theorem ly_11 {G : St} (h : Lay G.2.2) : sR G 1 11 = 59 ∨ sR G 1 11 = 62 := h.2.2.2.2.2.1.elim (fun q => Or.inr q.2) (fun q => Or.inl q.2)
theorem nx_pos {G : St} (h : Lay G.2.2) : 0 < nx G := Nat.lt_of_lt_of_le (by decide) h.2.2.2.1
theorem ob_uN {G : St} {i c kd n : Nat} (h : Ob G i c) : Ob (uN G kd n) i c := ⟨(ag_uN (Nat.ne_of_lt h.2.2)).2.2.2.2.trans h.1, h.2.1, Nat.lt_succ_of_lt h.2.2⟩
theorem ob_uR {G : St} {i c a b v : Nat} (h : Ob G i c) : Ob (uR G a b v) i c := h
theorem lhP {h : Nat} (hh : h = 39 ∨ h = 49) : 0 < h := by omega
theorem ltP {h : Nat} (hh : h = 59 ∨ h = 62) : 0 < h := by omega
theorem lhO {G : St} {h : Nat} (hL : Lay G.2.2) (hh : h = 39 ∨ h = 49) : Ob G h 1 := by rcases hh with rfl | rfl <;> first | exact lo_39 hL | exact lo_49 hL
theorem ltO {G : St} {h : Nat} (hL : Lay G.2.2) (hh : h = 59 ∨ h = 62) : Ob G h 8 := by rcases hh with rfl | rfl <;> first | exact lo_59 hL | exact lo_62 hL
theorem lhR0 {G : St} {h : Nat} (hL : Lay G.2.2) (hh : h = 39 ∨ h = 49) : sR G h 0 = h + 1 := by rcases hh with rfl | rfl <;> first | exact lr_39_0 hL | exact lr_49_0 hL
theorem lhA0 {G : St} {h : Nat} (hL : Lay G.2.2) (hh : h = 39 ∨ h = 49) : Ar G (h + 1) 1 5 := by rcases hh with rfl | rfl <;> first | exact la_40 hL | exact la_50 hL
theorem lhR1 {G : St} {h : Nat} (hL : Lay G.2.2) (hh : h = 39 ∨ h = 49) : sR G h 1 = h + 2 := by rcases hh with rfl | rfl <;> first | exact lr_39_1 hL | exact lr_49_1 hL
theorem lhA1 {G : St} {h : Nat} (hL : Lay G.2.2) (hh : h = 39 ∨ h = 49) : Ar G (h + 2) 0 5 := by rcases hh with rfl | rfl <;> first | exact la_41 hL | exact la_51 hL
theorem lhR2 {G : St} {h : Nat} (hL : Lay G.2.2) (hh : h = 39 ∨ h = 49) : sR G h 2 = h + 3 := by rcases hh with rfl | rfl <;> first | exact lr_39_2 hL | exact lr_49_2 hL
theorem lhA2 {G : St} {h : Nat} (hL : Lay G.2.2) (hh : h = 39 ∨ h = 49) : Ar G (h + 3) 1 20 := by rcases hh with rfl | rfl <;> first | exact la_42 hL | exact la_52 hL
theorem lhR3 {G : St} {h : Nat} (hL : Lay G.2.2) (hh : h = 39 ∨ h = 49) : sR G h 3 = h + 4 := by rcases hh with rfl | rfl <;> first | exact lr_39_3 hL | exact lr_49_3 hL
theorem lhA3 {G : St} {h : Nat} (hL : Lay G.2.2) (hh : h = 39 ∨ h = 49) : Ar G (h + 4) 0 20 := by rcases hh with rfl | rfl <;> first | exact la_43 hL | exact la_53 hL
theorem lhR4 {G : St} {h : Nat} (hL : Lay G.2.2) (hh : h = 39 ∨ h = 49) : sR G h 4 = h + 5 := by rcases hh with rfl | rfl <;> first | exact lr_39_4 hL | exact lr_49_4 hL
theorem lhA4 {G : St} {h : Nat} (hL : Lay G.2.2) (hh : h = 39 ∨ h = 49) : Ar G (h + 5) 0 30 := by rcases hh with rfl | rfl <;> first | exact la_44 hL | exact la_54 hL
theorem lhR5 {G : St} {h : Nat} (hL : Lay G.2.2) (hh : h = 39 ∨ h = 49) : sR G h 5 = h + 6 := by rcases hh with rfl | rfl <;> first | exact lr_39_5 hL | exact lr_49_5 hL
theorem lhA5 {G : St} {h : Nat} (hL : Lay G.2.2) (hh : h = 39 ∨ h = 49) : Ar G (h + 6) 0 30 := by rcases hh with rfl | rfl <;> first | exact la_45 hL | exact la_55 hL
theorem lhR6 {G : St} {h : Nat} (hL : Lay G.2.2) (hh : h = 39 ∨ h = 49) : sR G h 6 = h + 7 := by rcases hh with rfl | rfl <;> first | exact lr_39_6 hL | exact lr_49_6 hL
theorem lhA6 {G : St} {h : Nat} (hL : Lay G.2.2) (hh : h = 39 ∨ h = 49) : Ar G (h + 7) 0 5 := by rcases hh with rfl | rfl <;> first | exact la_46 hL | exact la_56 hL
theorem lhR7 {G : St} {h : Nat} (hL : Lay G.2.2) (hh : h = 39 ∨ h = 49) : sR G h 7 = h + 8 := by rcases hh with rfl | rfl <;> first | exact lr_39_7 hL | exact lr_49_7 hL
theorem lhA7 {G : St} {h : Nat} (hL : Lay G.2.2) (hh : h = 39 ∨ h = 49) : Ar G (h + 8) 1 120 := by rcases hh with rfl | rfl <;> first | exact la_47 hL | exact la_57 hL
theorem lhR8 {G : St} {h : Nat} (hL : Lay G.2.2) (hh : h = 39 ∨ h = 49) : sR G h 8 = h + 9 := by rcases hh with rfl | rfl <;> first | exact lr_39_8 hL | exact lr_49_8 hL
theorem lhA8 {G : St} {h : Nat} (hL : Lay G.2.2) (hh : h = 39 ∨ h = 49) : Ar G (h + 9) 0 4 := by rcases hh with rfl | rfl <;> first | exact la_48 hL | exact la_58 hL
theorem ltR0 {G : St} {h : Nat} (hL : Lay G.2.2) (hh : h = 59 ∨ h = 62) : sR G h 0 = h + 1 := by rcases hh with rfl | rfl <;> first | exact lr_59_0 hL | exact lr_62_0 hL
theorem ltA0 {G : St} {h : Nat} (hL : Lay G.2.2) (hh : h = 59 ∨ h = 62) : Ar G (h + 1) 0 4 := by rcases hh with rfl | rfl <;> first | exact la_60 hL | exact la_63 hL
theorem ltR1 {G : St} {h : Nat} (hL : Lay G.2.2) (hh : h = 59 ∨ h = 62) : sR G h 1 = h + 2 := by rcases hh with rfl | rfl <;> first | exact lr_59_1 hL | exact lr_62_1 hL
theorem ltA1 {G : St} {h : Nat} (hL : Lay G.2.2) (hh : h = 59 ∨ h = 62) : Ar G (h + 2) 1 4 := by rcases hh with rfl | rfl <;> first | exact la_61 hL | exact la_64 hL
theorem E_nmG {K : KT} {M : MT} {d pc : Nat} {lv : List (Nat × Value)} {st : List Value} {G : St} {post : Option Value → St → Prop} (h : ∀ G2 : St, G2 = G → Ev K M d pc lv st G2 post) : Ev K M d pc lv st G post := h G rfl
theorem tb_outZ {x : Int32} {lo hi : Int} (h1 : -2147483648 ≤ lo) (h2 : hi < 2147483648) (h : ∀ z : Int, lo ≤ z → z ≤ hi → x ≠ Int32.ofInt z) : x.toInt < lo ∨ hi < x.toInt := by
  rcases Int.lt_or_le x.toInt lo with q | q
  · exact Or.inl q
  · rcases Int.lt_or_le hi x.toInt with q2 | q2
    · exact Or.inr q2
    · exact absurd (by simp) (h x.toInt q q2)
theorem lk_out2 {x : Int32} (c0 : ¬ x = 0) (c1 : ¬ x = 1) : Op.lookupswitch.offset [((0 : Int), (27 : Int)), (1, 34)] 41 x.toInt = 41 := by
  have h0 : ¬ x.toInt = 0 := fun q => c0 (Int32.toInt_inj.mp q)
  have h1 : ¬ x.toInt = 1 := fun q => c1 (Int32.toInt_inj.mp q)
  simp [Op.lookupswitch.offset, h0, h1, Ne.symm h0, Ne.symm h1]

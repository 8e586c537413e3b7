set_option maxRecDepth 20000 in
set_option maxHeartbeats 4000000 in
theorem kL_law_23 {K : KT} {G : St} {Q : Int32 → St → Prop} {x4 : Int32} (hL : Lay G.2.2) 
    (hB : ((((nI (kl K)) - 7) < x4 → Q 1 G) ∧ (¬ ((nI (kl K)) - 7) < x4 → vp_in x4 (kl K) ∧ ((((kx K (Int32.toNatClampNeg x4)) &&& 31) = 0 → vp_in (x4 + 1) (kl K) ∧ vp_in (x4 + 2) (kl K) ∧ ∀ v4 : Int64, v4 = ((Int32.toInt64 (kx K (Int32.toNatClampNeg (x4 + 1)))) <<< (Int32.toInt64 32 &&& 63)) ||| ((Int32.toInt64 (kx K (Int32.toNatClampNeg (x4 + 2)))) &&& 4294967295) → vp_in (x4 + 3) (kl K) ∧ vp_in (x4 + 4) (kl K) ∧ ∀ v7 : Int64, v7 = ((Int32.toInt64 (kx K (Int32.toNatClampNeg (x4 + 3)))) <<< (Int32.toInt64 32 &&& 63)) ||| ((Int32.toInt64 (kx K (Int32.toNatClampNeg (x4 + 4)))) &&& 4294967295) → vp_in (x4 + 5) (kl K) ∧ vp_in (x4 + 6) (kl K) ∧ ∀ v10 : Int64, v10 = ((Int32.toInt64 (kx K (Int32.toNatClampNeg (x4 + 5)))) <<< (Int32.toInt64 32 &&& 63)) ||| ((Int32.toInt64 (kx K (Int32.toNatClampNeg (x4 + 6)))) &&& 4294967295) → EvI K mX11_feed 2 0 [(0, .ref 1), (1, .long v4), (3, .long v7), (5, .long v10)] [] G (fun r11 G11 => vp_in (x4 + 1) (kl K) ∧ vp_in (x4 + 2) (kl K) ∧ ∀ v14 : Int64, v14 = ((Int32.toInt64 (kx K (Int32.toNatClampNeg (x4 + 1)))) <<< (Int32.toInt64 32 &&& 63)) ||| ((Int32.toInt64 (kx K (Int32.toNatClampNeg (x4 + 2)))) &&& 4294967295) → vp_in (x4 + 3) (kl K) ∧ vp_in (x4 + 4) (kl K) ∧ ∀ v17 : Int64, v17 = ((Int32.toInt64 (kx K (Int32.toNatClampNeg (x4 + 3)))) <<< (Int32.toInt64 32 &&& 63)) ||| ((Int32.toInt64 (kx K (Int32.toNatClampNeg (x4 + 4)))) &&& 4294967295) → vp_in (x4 + 5) (kl K) ∧ vp_in (x4 + 6) (kl K) ∧ ∀ v20 : Int64, v20 = ((Int32.toInt64 (kx K (Int32.toNatClampNeg (x4 + 5)))) <<< (Int32.toInt64 32 &&& 63)) ||| ((Int32.toInt64 (kx K (Int32.toNatClampNeg (x4 + 6)))) &&& 4294967295) → EvI K mX12_feed 1 0 [(0, .ref 66), (1, .long v14), (3, .long v17), (5, .long v20)] [] G11 (fun r21 G21 => ((r11 = r21 → EvIa K mL_law 12 1095 [(0, .float 1), (1, .ref 1), (2, .ref 66), (3, .ref 103), (4, .int x4)] [] G21 Q) ∧ (¬ r11 = r21 → Q 0 G21))))) ∧ (((kx K (Int32.toNatClampNeg x4)) &&& 31) = 1 → EvIa K mX11_tables 7 0 [(0, .ref 1)] [] G (fun r22 G22 => Lay G22.2.2 ∧ EvI K mX12_tables 3 0 [(0, .ref 66)] [] G22 (fun r23 G23 => ((r22 = r23 → EvIa K mL_law 12 1095 [(0, .float 1), (1, .ref 1), (2, .ref 66), (3, .ref 103), (4, .int x4)] [] G23 Q) ∧ (¬ r22 = r23 → Q 0 G23))))) ∧ (((kx K (Int32.toNatClampNeg x4)) &&& 31) = 2 → EvI K mX11_rows 6 0 [(0, .ref 1)] [] G (fun r24 G24 => EvI K mX12_rows 3 0 [(0, .ref 66)] [] G24 (fun r25 G25 => ((r24 = r25 → EvIa K mL_law 12 1095 [(0, .float 1), (1, .ref 1), (2, .ref 66), (3, .ref 103), (4, .int x4)] [] G25 Q) ∧ (¬ r24 = r25 → Q 0 G25))))) ∧ (((kx K (Int32.toNatClampNeg x4)) &&& 31) = 3 → EvIa K mX11_ask 5 0 [(0, .ref 1)] [] G (fun r26 G26 => Lay G26.2.2 ∧ EvI K mX12_ask 2 0 [(0, .ref 66)] [] G26 (fun r27 G27 => ((r26 = r27 → EvIa K mL_law 12 1095 [(0, .float 1), (1, .ref 1), (2, .ref 66), (3, .ref 103), (4, .int x4)] [] G27 Q) ∧ (¬ r26 = r27 → Q 0 G27))))) ∧ (((kx K (Int32.toNatClampNeg x4)) &&& 31) = 4 → EvIa K mX11_question 11 0 [(0, .ref 1)] [] G (fun r28 G28 => Lay G28.2.2 ∧ EvI K mX12_question 7 0 [(0, .ref 66)] [] G28 (fun r29 G29 => ((r28 = r29 → EvIa K mL_law 12 1095 [(0, .float 1), (1, .ref 1), (2, .ref 66), (3, .ref 103), (4, .int x4)] [] G29 Q) ∧ (¬ r28 = r29 → Q 0 G29))))) ∧ (((kx K (Int32.toNatClampNeg x4)) &&& 31) = 5 → vp_in (x4 + 1) (kl K) ∧ EvI K mX11_width 0 0 [(0, .ref 1), (1, .int (kx K (Int32.toNatClampNeg (x4 + 1))))] [] G (fun r31 G31 => vp_in (x4 + 1) (kl K) ∧ EvI K mX12_width 1 0 [(0, .ref 66), (1, .int (kx K (Int32.toNatClampNeg (x4 + 1))))] [] G31 (fun r33 G33 => ((r31 = r33 → EvIa K mL_law 12 1095 [(0, .float 1), (1, .ref 1), (2, .ref 66), (3, .ref 103), (4, .int x4)] [] G33 Q) ∧ (¬ r31 = r33 → Q 0 G33))))) ∧ (((kx K (Int32.toNatClampNeg x4)) &&& 31) = 6 → vp_in (x4 + 1) (kl K) ∧ vp_in (x4 + 2) (kl K) ∧ RowC K (kx K (Int32.toNatClampNeg (x4 + 1))) (kx K (Int32.toNatClampNeg (x4 + 2))) G (fun r36 G36 => Lay G36.2.2 ∧ vp_in (x4 + 1) (kl K) ∧ vp_in (x4 + 2) (kl K) ∧ EvI K mX12_row 2 0 [(0, .ref 66), (1, .int (kx K (Int32.toNatClampNeg (x4 + 1)))), (2, .int (kx K (Int32.toNatClampNeg (x4 + 2))))] [] G36 (fun r39 G39 => EvI K mX12_thrown 0 0 [(0, .ref 66)] [] G39 (fun r40 G40 => ((r40 = r36 → ((¬ r36 = 0 → EvIa K mL_law 12 453 [(0, .float 1), (1, .ref 1), (2, .ref 66), (3, .ref 103), (4, .int x4)] [] G40 Q) ∧ (r36 = 0 → (((sL G40 103 0) = (Int32.toInt64 r39) → EvIa K mL_law 12 453 [(0, .float 1), (1, .ref 1), (2, .ref 66), (3, .ref 103), (4, .int x4)] [] G40 Q) ∧ (¬ (sL G40 103 0) = (Int32.toInt64 r39) → Q 0 G40))))) ∧ (¬ r40 = r36 → Q 0 G40)))))) ∧ (((kx K (Int32.toNatClampNeg x4)) &&& 31) = 7 → vp_in (x4 + 1) (kl K) ∧ vp_in (x4 + 2) (kl K) ∧ EvL K mX11_cell 4 0 [(0, .ref 1), (1, .int (kx K (Int32.toNatClampNeg (x4 + 1)))), (2, .int (kx K (Int32.toNatClampNeg (x4 + 2))))] [] G (fun r43 G43 => vp_in (x4 + 1) (kl K) ∧ vp_in (x4 + 2) (kl K) ∧ EvL K mX12_cell 2 0 [(0, .ref 66), (1, .int (kx K (Int32.toNatClampNeg (x4 + 1)))), (2, .int (kx K (Int32.toNatClampNeg (x4 + 2))))] [] G43 (fun r46 G46 => ((r43 = r46 → EvIa K mL_law 12 1095 [(0, .float 1), (1, .ref 1), (2, .ref 66), (3, .ref 103), (4, .int x4)] [] G46 Q) ∧ (¬ r43 = r46 → Q 0 G46))))) ∧ (((kx K (Int32.toNatClampNeg x4)) &&& 31) = 8 → vp_in (x4 + 1) (kl K) ∧ vp_in (x4 + 2) (kl K) ∧ EvI K mX11_holds 6 0 [(0, .ref 1), (1, .int (kx K (Int32.toNatClampNeg (x4 + 1)))), (2, .int (kx K (Int32.toNatClampNeg (x4 + 2))))] [] G (fun r49 G49 => vp_in (x4 + 1) (kl K) ∧ vp_in (x4 + 2) (kl K) ∧ EvI K mX12_holds 6 0 [(0, .ref 66), (1, .int (kx K (Int32.toNatClampNeg (x4 + 1)))), (2, .int (kx K (Int32.toNatClampNeg (x4 + 2))))] [] G49 (fun r52 G52 => ((r49 = r52 → EvIa K mL_law 12 1095 [(0, .float 1), (1, .ref 1), (2, .ref 66), (3, .ref 103), (4, .int x4)] [] G52 Q) ∧ (¬ r49 = r52 → Q 0 G52))))) ∧ (((kx K (Int32.toNatClampNeg x4)) &&& 31) = 9 → vp_in (x4 + 1) (kl K) ∧ EvI K mX11_found 6 0 [(0, .ref 1), (1, .int (kx K (Int32.toNatClampNeg (x4 + 1))))] [] G (fun r54 G54 => vp_in (x4 + 1) (kl K) ∧ EvI K mX12_found 6 0 [(0, .ref 66), (1, .int (kx K (Int32.toNatClampNeg (x4 + 1))))] [] G54 (fun r56 G56 => ((r54 = r56 → EvIa K mL_law 12 1095 [(0, .float 1), (1, .ref 1), (2, .ref 66), (3, .ref 103), (4, .int x4)] [] G56 Q) ∧ (¬ r54 = r56 → Q 0 G56))))) ∧ (((kx K (Int32.toNatClampNeg x4)) &&& 31) = 10 → vp_in (x4 + 1) (kl K) ∧ vp_in (x4 + 2) (kl K) ∧ EvI K mX11_tie 6 0 [(0, .ref 1), (1, .int (kx K (Int32.toNatClampNeg (x4 + 1)))), (2, .int (kx K (Int32.toNatClampNeg (x4 + 2))))] [] G (fun r59 G59 => vp_in (x4 + 1) (kl K) ∧ vp_in (x4 + 2) (kl K) ∧ EvI K mX12_tie 6 0 [(0, .ref 66), (1, .int (kx K (Int32.toNatClampNeg (x4 + 1)))), (2, .int (kx K (Int32.toNatClampNeg (x4 + 2))))] [] G59 (fun r62 G62 => ((r59 = r62 → EvIa K mL_law 12 1095 [(0, .float 1), (1, .ref 1), (2, .ref 66), (3, .ref 103), (4, .int x4)] [] G62 Q) ∧ (¬ r59 = r62 → Q 0 G62))))) ∧ (((kx K (Int32.toNatClampNeg x4)) &&& 31) = 11 → vp_in (x4 + 1) (kl K) ∧ vp_in (x4 + 2) (kl K) ∧ EvIa K mX11_joining 11 0 [(0, .ref 1), (1, .int (kx K (Int32.toNatClampNeg (x4 + 1)))), (2, .int (kx K (Int32.toNatClampNeg (x4 + 2))))] [] G (fun r65 G65 => Lay G65.2.2 ∧ vp_in (x4 + 1) (kl K) ∧ vp_in (x4 + 2) (kl K) ∧ EvI K mX12_joining 7 0 [(0, .ref 66), (1, .int (kx K (Int32.toNatClampNeg (x4 + 1)))), (2, .int (kx K (Int32.toNatClampNeg (x4 + 2))))] [] G65 (fun r68 G68 => ((r65 = r68 → EvIa K mL_law 12 1095 [(0, .float 1), (1, .ref 1), (2, .ref 66), (3, .ref 103), (4, .int x4)] [] G68 Q) ∧ (¬ r65 = r68 → Q 0 G68))))) ∧ (((kx K (Int32.toNatClampNeg x4)) &&& 31) = 12 → vp_in (x4 + 1) (kl K) ∧ vp_in (x4 + 2) (kl K) ∧ EvIa K mX11_place 11 0 [(0, .ref 1), (1, .int (kx K (Int32.toNatClampNeg (x4 + 1)))), (2, .int (kx K (Int32.toNatClampNeg (x4 + 2))))] [] G (fun r71 G71 => Lay G71.2.2 ∧ vp_in (x4 + 1) (kl K) ∧ vp_in (x4 + 2) (kl K) ∧ EvI K mX12_place 7 0 [(0, .ref 66), (1, .int (kx K (Int32.toNatClampNeg (x4 + 1)))), (2, .int (kx K (Int32.toNatClampNeg (x4 + 2))))] [] G71 (fun r74 G74 => ((r71 = r74 → EvIa K mL_law 12 1095 [(0, .float 1), (1, .ref 1), (2, .ref 66), (3, .ref 103), (4, .int x4)] [] G74 Q) ∧ (¬ r71 = r74 → Q 0 G74))))) ∧ (((kx K (Int32.toNatClampNeg x4)) &&& 31) = 13 → vp_in (x4 + 1) (kl K) ∧ vp_in (x4 + 2) (kl K) ∧ EvIa K mX11_looks 11 0 [(0, .ref 1), (1, .int (kx K (Int32.toNatClampNeg (x4 + 1)))), (2, .int (kx K (Int32.toNatClampNeg (x4 + 2))))] [] G (fun r77 G77 => Lay G77.2.2 ∧ vp_in (x4 + 1) (kl K) ∧ vp_in (x4 + 2) (kl K) ∧ EvI K mX12_looks 6 0 [(0, .ref 66), (1, .int (kx K (Int32.toNatClampNeg (x4 + 1)))), (2, .int (kx K (Int32.toNatClampNeg (x4 + 2))))] [] G77 (fun r80 G80 => ((r77 = r80 → EvIa K mL_law 12 1095 [(0, .float 1), (1, .ref 1), (2, .ref 66), (3, .ref 103), (4, .int x4)] [] G80 Q) ∧ (¬ r77 = r80 → Q 0 G80))))) ∧ (((kx K (Int32.toNatClampNeg x4)) &&& 31) = 14 → vp_in (x4 + 1) (kl K) ∧ vp_in (x4 + 2) (kl K) ∧ EvIa K mX11_asked 11 0 [(0, .ref 1), (1, .int (kx K (Int32.toNatClampNeg (x4 + 1)))), (2, .int (kx K (Int32.toNatClampNeg (x4 + 2))))] [] G (fun r83 G83 => Lay G83.2.2 ∧ vp_in (x4 + 1) (kl K) ∧ vp_in (x4 + 2) (kl K) ∧ EvI K mX12_asked 7 0 [(0, .ref 66), (1, .int (kx K (Int32.toNatClampNeg (x4 + 1)))), (2, .int (kx K (Int32.toNatClampNeg (x4 + 2))))] [] G83 (fun r86 G86 => ((r83 = r86 → EvIa K mL_law 12 1095 [(0, .float 1), (1, .ref 1), (2, .ref 66), (3, .ref 103), (4, .int x4)] [] G86 Q) ∧ (¬ r83 = r86 → Q 0 G86))))) ∧ (((kx K (Int32.toNatClampNeg x4)) &&& 31) = 15 → vp_in (x4 + 1) (kl K) ∧ vp_in (x4 + 2) (kl K) ∧ EvIa K mX11_said 11 0 [(0, .ref 1), (1, .int (kx K (Int32.toNatClampNeg (x4 + 1)))), (2, .int (kx K (Int32.toNatClampNeg (x4 + 2))))] [] G (fun r89 G89 => Lay G89.2.2 ∧ vp_in (x4 + 1) (kl K) ∧ vp_in (x4 + 2) (kl K) ∧ EvI K mX12_said 7 0 [(0, .ref 66), (1, .int (kx K (Int32.toNatClampNeg (x4 + 1)))), (2, .int (kx K (Int32.toNatClampNeg (x4 + 2))))] [] G89 (fun r92 G92 => ((r89 = r92 → EvIa K mL_law 12 1095 [(0, .float 1), (1, .ref 1), (2, .ref 66), (3, .ref 103), (4, .int x4)] [] G92 Q) ∧ (¬ r89 = r92 → Q 0 G92))))) ∧ (((kx K (Int32.toNatClampNeg x4)) &&& 31) = 16 → vp_in (x4 + 1) (kl K) ∧ EvIa K mX11_choose 11 0 [(0, .ref 1), (1, .int (kx K (Int32.toNatClampNeg (x4 + 1))))] [] G (fun r94 G94 => Lay G94.2.2 ∧ vp_in (x4 + 1) (kl K) ∧ EvI K mX12_choose 7 0 [(0, .ref 66), (1, .int (kx K (Int32.toNatClampNeg (x4 + 1))))] [] G94 (fun r96 G96 => ((r94 = r96 → EvIa K mL_law 12 1095 [(0, .float 1), (1, .ref 1), (2, .ref 66), (3, .ref 103), (4, .int x4)] [] G96 Q) ∧ (¬ r94 = r96 → Q 0 G96))))) ∧ (((kx K (Int32.toNatClampNeg x4)) &&& 31) = 17 → vp_in (x4 + 1) (kl K) ∧ EvLa K mX11_parts 11 0 [(0, .ref 1), (1, .int (kx K (Int32.toNatClampNeg (x4 + 1))))] [] G (fun r98 G98 => Lay G98.2.2 ∧ vp_in (x4 + 1) (kl K) ∧ EvL K mX12_parts 6 0 [(0, .ref 66), (1, .int (kx K (Int32.toNatClampNeg (x4 + 1))))] [] G98 (fun r100 G100 => ((r98 = r100 → EvIa K mL_law 12 1095 [(0, .float 1), (1, .ref 1), (2, .ref 66), (3, .ref 103), (4, .int x4)] [] G100 Q) ∧ (¬ r98 = r100 → Q 0 G100))))) ∧ (((kx K (Int32.toNatClampNeg x4)) &&& 31) = 18 → EvIa K mX11_left 11 0 [(0, .ref 1)] [] G (fun r101 G101 => Lay G101.2.2 ∧ EvI K mX12_left 6 0 [(0, .ref 66)] [] G101 (fun r102 G102 => ((r101 = r102 → EvIa K mL_law 12 1095 [(0, .float 1), (1, .ref 1), (2, .ref 66), (3, .ref 103), (4, .int x4)] [] G102 Q) ∧ (¬ r101 = r102 → Q 0 G102))))) ∧ (((kx K (Int32.toNatClampNeg x4)) &&& 31) = 19 → vp_in (x4 + 1) (kl K) ∧ vp_in (x4 + 2) (kl K) ∧ EvL K mX11_near 4 0 [(0, .ref 1), (1, .int (kx K (Int32.toNatClampNeg (x4 + 1)))), (2, .int (kx K (Int32.toNatClampNeg (x4 + 2))))] [] G (fun r105 G105 => vp_in (x4 + 1) (kl K) ∧ vp_in (x4 + 2) (kl K) ∧ EvL K mX12_near 4 0 [(0, .ref 66), (1, .int (kx K (Int32.toNatClampNeg (x4 + 1)))), (2, .int (kx K (Int32.toNatClampNeg (x4 + 2))))] [] G105 (fun r108 G108 => ((r105 = r108 → EvIa K mL_law 12 1095 [(0, .float 1), (1, .ref 1), (2, .ref 66), (3, .ref 103), (4, .int x4)] [] G108 Q) ∧ (¬ r105 = r108 → Q 0 G108))))) ∧ (((kx K (Int32.toNatClampNeg x4)) &&& 31) = 20 → vp_in (x4 + 1) (kl K) ∧ EvIa K mX11_meant 11 0 [(0, .ref 1), (1, .int (kx K (Int32.toNatClampNeg (x4 + 1))))] [] G (fun r110 G110 => Lay G110.2.2 ∧ vp_in (x4 + 1) (kl K) ∧ EvI K mX12_meant 6 0 [(0, .ref 66), (1, .int (kx K (Int32.toNatClampNeg (x4 + 1))))] [] G110 (fun r112 G112 => ((r110 = r112 → EvIa K mL_law 12 1095 [(0, .float 1), (1, .ref 1), (2, .ref 66), (3, .ref 103), (4, .int x4)] [] G112 Q) ∧ (¬ r110 = r112 → Q 0 G112))))) ∧ (((kx K (Int32.toNatClampNeg x4)) &&& 31) = 21 → vp_in (x4 + 1) (kl K) ∧ EvI K mX11_judged 0 0 [(0, .ref 1), (1, .int (kx K (Int32.toNatClampNeg (x4 + 1))))] [] G (fun r114 G114 => vp_in (x4 + 1) (kl K) ∧ EvI K mX12_judged 1 0 [(0, .ref 66), (1, .int (kx K (Int32.toNatClampNeg (x4 + 1))))] [] G114 (fun r116 G116 => ((r114 = r116 → EvIa K mL_law 12 1095 [(0, .float 1), (1, .ref 1), (2, .ref 66), (3, .ref 103), (4, .int x4)] [] G116 Q) ∧ (¬ r114 = r116 → Q 0 G116))))) ∧ (((kx K (Int32.toNatClampNeg x4)) &&& 31) = 22 → vp_in (x4 + 1) (kl K) ∧ EvI K mX11_person 3 0 [(0, .ref 1), (1, .int (kx K (Int32.toNatClampNeg (x4 + 1))))] [] G (fun r118 G118 => vp_in (x4 + 1) (kl K) ∧ EvI K mX12_person 1 0 [(0, .ref 66), (1, .int (kx K (Int32.toNatClampNeg (x4 + 1))))] [] G118 (fun r120 G120 => ((r118 = r120 → EvIa K mL_law 12 1095 [(0, .float 1), (1, .ref 1), (2, .ref 66), (3, .ref 103), (4, .int x4)] [] G120 Q) ∧ (¬ r118 = r120 → Q 0 G120))))) ∧ (((kx K (Int32.toNatClampNeg x4)) &&& 31) = 23 → vp_in (x4 + 1) (kl K) ∧ vp_in (x4 + 2) (kl K) ∧ vp_in (x4 + 3) (kl K) ∧ (((kx K (Int32.toNatClampNeg (x4 + 3))) = 0 → EvIa K mL_law 12 982 [(0, .float 1), (1, .ref 1), (2, .ref 66), (3, .ref 103), (4, .int x4)] [.int 0, .int (kx K (Int32.toNatClampNeg (x4 + 2))), .int (kx K (Int32.toNatClampNeg (x4 + 1))), .ref 1] G Q) ∧ (¬ (kx K (Int32.toNatClampNeg (x4 + 3))) = 0 → EvIa K mL_law 12 982 [(0, .float 1), (1, .ref 1), (2, .ref 66), (3, .ref 103), (4, .int x4)] [.int 1, .int (kx K (Int32.toNatClampNeg (x4 + 2))), .int (kx K (Int32.toNatClampNeg (x4 + 1))), .ref 1] G Q))) ∧ (((kx K (Int32.toNatClampNeg x4)) &&& 31) = 24 → vp_in (x4 + 1) (kl K) ∧ EvI K mX11_offered 7 0 [(0, .ref 1), (1, .int (kx K (Int32.toNatClampNeg (x4 + 1))))] [] G (fun r125 G125 => vp_in (x4 + 1) (kl K) ∧ EvI K mX12_offered 4 0 [(0, .ref 66), (1, .int (kx K (Int32.toNatClampNeg (x4 + 1))))] [] G125 (fun r127 G127 => ((r125 = r127 → EvIa K mL_law 12 1095 [(0, .float 1), (1, .ref 1), (2, .ref 66), (3, .ref 103), (4, .int x4)] [] G127 Q) ∧ (¬ r125 = r127 → Q 0 G127))))) ∧ (((kx K (Int32.toNatClampNeg x4)) &&& 31) = 25 → vp_in (x4 + 1) (kl K) ∧ EvI K mX11_lets 7 0 [(0, .ref 1), (1, .int (kx K (Int32.toNatClampNeg (x4 + 1))))] [] G (fun r129 G129 => vp_in (x4 + 1) (kl K) ∧ EvI K mX12_lets 4 0 [(0, .ref 66), (1, .int (kx K (Int32.toNatClampNeg (x4 + 1))))] [] G129 (fun r131 G131 => ((r129 = r131 → EvIa K mL_law 12 1095 [(0, .float 1), (1, .ref 1), (2, .ref 66), (3, .ref 103), (4, .int x4)] [] G131 Q) ∧ (¬ r129 = r131 → Q 0 G131))))) ∧ (((kx K (Int32.toNatClampNeg x4)) &&& 31) = 26 → vp_in (x4 + 1) (kl K) ∧ EvIa K mX11_count 11 0 [(0, .ref 1), (1, .int (kx K (Int32.toNatClampNeg (x4 + 1))))] [] G (fun r133 G133 => Lay G133.2.2 ∧ vp_in (x4 + 1) (kl K) ∧ EvI K mX12_count 6 0 [(0, .ref 66), (1, .int (kx K (Int32.toNatClampNeg (x4 + 1))))] [] G133 (fun r135 G135 => ((r133 = r135 → EvIa K mL_law 12 1095 [(0, .float 1), (1, .ref 1), (2, .ref 66), (3, .ref 103), (4, .int x4)] [] G135 Q) ∧ (¬ r133 = r135 → Q 0 G135))))) ∧ (¬ ((kx K (Int32.toNatClampNeg x4)) &&& 31) = 0 → ¬ ((kx K (Int32.toNatClampNeg x4)) &&& 31) = 1 → ¬ ((kx K (Int32.toNatClampNeg x4)) &&& 31) = 2 → ¬ ((kx K (Int32.toNatClampNeg x4)) &&& 31) = 3 → ¬ ((kx K (Int32.toNatClampNeg x4)) &&& 31) = 4 → ¬ ((kx K (Int32.toNatClampNeg x4)) &&& 31) = 5 → ¬ ((kx K (Int32.toNatClampNeg x4)) &&& 31) = 6 → ¬ ((kx K (Int32.toNatClampNeg x4)) &&& 31) = 7 → ¬ ((kx K (Int32.toNatClampNeg x4)) &&& 31) = 8 → ¬ ((kx K (Int32.toNatClampNeg x4)) &&& 31) = 9 → ¬ ((kx K (Int32.toNatClampNeg x4)) &&& 31) = 10 → ¬ ((kx K (Int32.toNatClampNeg x4)) &&& 31) = 11 → ¬ ((kx K (Int32.toNatClampNeg x4)) &&& 31) = 12 → ¬ ((kx K (Int32.toNatClampNeg x4)) &&& 31) = 13 → ¬ ((kx K (Int32.toNatClampNeg x4)) &&& 31) = 14 → ¬ ((kx K (Int32.toNatClampNeg x4)) &&& 31) = 15 → ¬ ((kx K (Int32.toNatClampNeg x4)) &&& 31) = 16 → ¬ ((kx K (Int32.toNatClampNeg x4)) &&& 31) = 17 → ¬ ((kx K (Int32.toNatClampNeg x4)) &&& 31) = 18 → ¬ ((kx K (Int32.toNatClampNeg x4)) &&& 31) = 19 → ¬ ((kx K (Int32.toNatClampNeg x4)) &&& 31) = 20 → ¬ ((kx K (Int32.toNatClampNeg x4)) &&& 31) = 21 → ¬ ((kx K (Int32.toNatClampNeg x4)) &&& 31) = 22 → ¬ ((kx K (Int32.toNatClampNeg x4)) &&& 31) = 23 → ¬ ((kx K (Int32.toNatClampNeg x4)) &&& 31) = 24 → ¬ ((kx K (Int32.toNatClampNeg x4)) &&& 31) = 25 → ¬ ((kx K (Int32.toNatClampNeg x4)) &&& 31) = 26 → EvIa K mL_law 12 1095 [(0, .float 1), (1, .ref 1), (2, .ref 66), (3, .ref 103), (4, .int x4)] [] G Q))))) :
    EvIa K mL_law 12 23 [(0, .float 1), (1, .ref 1), (2, .ref 66), (3, .ref 103), (4, .int x4)] [] G Q := by
  refine E_iload 4 dL_law_23 rfl ?_
  refine E_aload_n 0 dL_law_25 rfl rfl rfl ?_
  refine E_lenScr dL_law_26 ?_
  refine E_bipush (v := 7) dL_law_27 (by decide) ?_
  refine E_isub dL_law_29 ?_
  refine E_icmp_gt (tgt := 1101) dL_law_30 (by decide) (fun c => ?_) (fun c => ?_)
  · have hB := hB.1 c
    refine E_iconst (v := 1) dL_law_1101 (by decide) ?_
    exact E_zret rfl (Or.inr rfl) dL_law_1102 ⟨_, rfl, hB⟩
  · have hB := hB.2 c
    refine E_aload_n 0 dL_law_33 rfl rfl rfl ?_
    refine E_iload 4 dL_law_34 rfl ?_
    obtain ⟨qq1, hB⟩ := hB
    refine E_ldScr qq1 dL_law_36 ?_
    refine E_bipush (v := 31) dL_law_37 (by decide) ?_
    refine E_iand dL_law_39 ?_
    obtain ⟨hA, hB⟩ := hB
    by_cases c0 : ((kx K (Int32.toNatClampNeg x4)) &&& 31) = 0
    · have hB := hA c0
      refine E_tableIn (off := 124) (tgt := 164) dL_law_40 (by rw [c0]; decide) (by rw [c0]; decide) (by rw [c0]; decide) (by decide) ?_
      refine E_aload_n 1 dL_law_164 rfl rfl rfl ?_
      refine E_aload_n 0 dL_law_165 rfl rfl rfl ?_
      refine E_iload 4 dL_law_166 rfl ?_
      refine E_iconst (v := 1) dL_law_168 (by decide) ?_
      refine E_iadd dL_law_169 ?_
      obtain ⟨qq2, hB⟩ := hB
      refine E_ldScr qq2 dL_law_170 ?_
      refine E_i2l dL_law_171 rfl ?_
      refine E_bipush (v := 32) dL_law_172 (by decide) ?_
      refine E_lshl dL_law_174 rfl ?_
      refine E_aload_n 0 dL_law_175 rfl rfl rfl ?_
      refine E_iload 4 dL_law_176 rfl ?_
      refine E_iconst (v := 2) dL_law_178 (by decide) ?_
      refine E_iadd dL_law_179 ?_
      obtain ⟨qq3, hB⟩ := hB
      refine E_ldScr qq3 dL_law_180 ?_
      refine E_i2l dL_law_181 rfl ?_
      refine E_ldc2 (v := 4294967295) tm_1880 dL_law_182 ?_
      refine E_land dL_law_185 ?_
      refine E_lor dL_law_186 ?_
      refine E_topl (fun v4 ev4 => ?_)
      have hB := hB v4 ev4
      refine E_aload_n 0 dL_law_187 rfl rfl rfl ?_
      refine E_iload 4 dL_law_188 rfl ?_
      refine E_iconst (v := 3) dL_law_190 (by decide) ?_
      refine E_iadd dL_law_191 ?_
      obtain ⟨qq5, hB⟩ := hB
      refine E_ldScr qq5 dL_law_192 ?_
      refine E_i2l dL_law_193 rfl ?_
      refine E_bipush (v := 32) dL_law_194 (by decide) ?_
      refine E_lshl dL_law_196 rfl ?_
      refine E_aload_n 0 dL_law_197 rfl rfl rfl ?_
      refine E_iload 4 dL_law_198 rfl ?_
      refine E_iconst (v := 4) dL_law_200 (by decide) ?_
      refine E_iadd dL_law_201 ?_
      obtain ⟨qq6, hB⟩ := hB
      refine E_ldScr qq6 dL_law_202 ?_
      refine E_i2l dL_law_203 rfl ?_
      refine E_ldc2 (v := 4294967295) tm_1880 dL_law_204 ?_
      refine E_land dL_law_207 ?_
      refine E_lor dL_law_208 ?_
      refine E_topl (fun v7 ev7 => ?_)
      have hB := hB v7 ev7
      refine E_aload_n 0 dL_law_209 rfl rfl rfl ?_
      refine E_iload 4 dL_law_210 rfl ?_
      refine E_iconst (v := 5) dL_law_212 (by decide) ?_
      refine E_iadd dL_law_213 ?_
      obtain ⟨qq8, hB⟩ := hB
      refine E_ldScr qq8 dL_law_214 ?_
      refine E_i2l dL_law_215 rfl ?_
      refine E_bipush (v := 32) dL_law_216 (by decide) ?_
      refine E_lshl dL_law_218 rfl ?_
      refine E_aload_n 0 dL_law_219 rfl rfl rfl ?_
      refine E_iload 4 dL_law_220 rfl ?_
      refine E_bipush (v := 6) dL_law_222 (by decide) ?_
      refine E_iadd dL_law_224 ?_
      obtain ⟨qq9, hB⟩ := hB
      refine E_ldScr qq9 dL_law_225 ?_
      refine E_i2l dL_law_226 rfl ?_
      refine E_ldc2 (v := 4294967295) tm_1880 dL_law_227 ?_
      refine E_land dL_law_230 ?_
      refine E_lor dL_law_231 ?_
      refine E_topl (fun v10 ev10 => ?_)
      have hB := hB v10 ev10
      refine E_cV (ci := 10) (as := [.long v4, .long v7, .long v10]) (st := []) cm_X11_feed cV_L_21 ⟨_, _, rfl⟩ (by decide) (lo_1 hL) rfl rfl (by decide) (Nat.le_of_ble_eq_true rfl) (Nat.le_of_ble_eq_true rfl) dL_law_232 hB (fun r G11 hr => ?_)
      obtain ⟨r11, rfl, hE11, hB⟩ := hr
      have hL11 : Lay G11.2.2 := by rw [hE11]; exact hL
      show Ev K mL_law 12 235 [(0, .float 1), (1, .ref 1), (2, .ref 66), (3, .ref 103), (4, .int x4)] [.int r11] G11 _
      refine E_aload_n 2 dL_law_235 rfl rfl rfl ?_
      refine E_aload_n 0 dL_law_236 rfl rfl rfl ?_
      refine E_iload 4 dL_law_237 rfl ?_
      refine E_iconst (v := 1) dL_law_239 (by decide) ?_
      refine E_iadd dL_law_240 ?_
      obtain ⟨qq12, hB⟩ := hB
      refine E_ldScr qq12 dL_law_241 ?_
      refine E_i2l dL_law_242 rfl ?_
      refine E_bipush (v := 32) dL_law_243 (by decide) ?_
      refine E_lshl dL_law_245 rfl ?_
      refine E_aload_n 0 dL_law_246 rfl rfl rfl ?_
      refine E_iload 4 dL_law_247 rfl ?_
      refine E_iconst (v := 2) dL_law_249 (by decide) ?_
      refine E_iadd dL_law_250 ?_
      obtain ⟨qq13, hB⟩ := hB
      refine E_ldScr qq13 dL_law_251 ?_
      refine E_i2l dL_law_252 rfl ?_
      refine E_ldc2 (v := 4294967295) tm_1880 dL_law_253 ?_
      refine E_land dL_law_256 ?_
      refine E_lor dL_law_257 ?_
      refine E_topl (fun v14 ev14 => ?_)
      have hB := hB v14 ev14
      refine E_aload_n 0 dL_law_258 rfl rfl rfl ?_
      refine E_iload 4 dL_law_259 rfl ?_
      refine E_iconst (v := 3) dL_law_261 (by decide) ?_
      refine E_iadd dL_law_262 ?_
      obtain ⟨qq15, hB⟩ := hB
      refine E_ldScr qq15 dL_law_263 ?_
      refine E_i2l dL_law_264 rfl ?_
      refine E_bipush (v := 32) dL_law_265 (by decide) ?_
      refine E_lshl dL_law_267 rfl ?_
      refine E_aload_n 0 dL_law_268 rfl rfl rfl ?_
      refine E_iload 4 dL_law_269 rfl ?_
      refine E_iconst (v := 4) dL_law_271 (by decide) ?_
      refine E_iadd dL_law_272 ?_
      obtain ⟨qq16, hB⟩ := hB
      refine E_ldScr qq16 dL_law_273 ?_
      refine E_i2l dL_law_274 rfl ?_
      refine E_ldc2 (v := 4294967295) tm_1880 dL_law_275 ?_
      refine E_land dL_law_278 ?_
      refine E_lor dL_law_279 ?_
      refine E_topl (fun v17 ev17 => ?_)
      have hB := hB v17 ev17
      refine E_aload_n 0 dL_law_280 rfl rfl rfl ?_
      refine E_iload 4 dL_law_281 rfl ?_
      refine E_iconst (v := 5) dL_law_283 (by decide) ?_
      refine E_iadd dL_law_284 ?_
      obtain ⟨qq18, hB⟩ := hB
      refine E_ldScr qq18 dL_law_285 ?_
      refine E_i2l dL_law_286 rfl ?_
      refine E_bipush (v := 32) dL_law_287 (by decide) ?_
      refine E_lshl dL_law_289 rfl ?_
      refine E_aload_n 0 dL_law_290 rfl rfl rfl ?_
      refine E_iload 4 dL_law_291 rfl ?_
      refine E_bipush (v := 6) dL_law_293 (by decide) ?_
      refine E_iadd dL_law_295 ?_
      obtain ⟨qq19, hB⟩ := hB
      refine E_ldScr qq19 dL_law_296 ?_
      refine E_i2l dL_law_297 rfl ?_
      refine E_ldc2 (v := 4294967295) tm_1880 dL_law_298 ?_
      refine E_land dL_law_301 ?_
      refine E_lor dL_law_302 ?_
      refine E_topl (fun v20 ev20 => ?_)
      have hB := hB v20 ev20
      refine E_cV (ci := 11) (as := [.long v14, .long v17, .long v20]) (st := [.int r11]) cm_X12_feed cV_L_25 ⟨_, _, rfl⟩ (by decide) (lo_66 hL11) rfl rfl (by decide) (Nat.le_of_ble_eq_true rfl) (Nat.le_of_ble_eq_true rfl) dL_law_303 hB (fun r G21 hr => ?_)
      obtain ⟨r21, rfl, hE21, hB⟩ := hr
      have hL21 : Lay G21.2.2 := by rw [hE21]; exact hL11
      show Ev K mL_law 12 306 [(0, .float 1), (1, .ref 1), (2, .ref 66), (3, .ref 103), (4, .int x4)] [.int r21, .int r11] G21 _
      refine E_icmp_eq (tgt := 1095) dL_law_306 (by decide) (fun c => ?_) (fun c => ?_)
      · have hB := hB.1 c
        exact hB
      · have hB := hB.2 c
        refine E_iconst (v := 0) dL_law_309 (by decide) ?_
        exact E_zret rfl (Or.inl rfl) dL_law_310 ⟨_, rfl, hB⟩
    obtain ⟨hA, hB⟩ := hB
    by_cases c1 : ((kx K (Int32.toNatClampNeg x4)) &&& 31) = 1
    · have hB := hA c1
      refine E_tableIn (off := 271) (tgt := 311) dL_law_40 (by rw [c1]; decide) (by rw [c1]; decide) (by rw [c1]; decide) (by decide) ?_
      refine E_aload_n 1 dL_law_311 rfl rfl rfl ?_
      refine E_cV (ci := 10) (as := []) (st := []) cm_X11_tables cV_L_26 ⟨_, _, rfl⟩ (by decide) (lo_1 hL) rfl rfl (by decide) (Nat.le_of_ble_eq_true rfl) (Nat.le_of_ble_eq_true rfl) dL_law_312 hB (fun r G22 hr => ?_)
      obtain ⟨r22, rfl, hL22, hB⟩ := hr
      show Ev K mL_law 12 315 [(0, .float 1), (1, .ref 1), (2, .ref 66), (3, .ref 103), (4, .int x4)] [.int r22] G22 _
      refine E_aload_n 2 dL_law_315 rfl rfl rfl ?_
      refine E_cV (ci := 11) (as := []) (st := [.int r22]) cm_X12_tables cV_L_30 ⟨_, _, rfl⟩ (by decide) (lo_66 hL22) rfl rfl (by decide) (Nat.le_of_ble_eq_true rfl) (Nat.le_of_ble_eq_true rfl) dL_law_316 hB (fun r G23 hr => ?_)
      obtain ⟨r23, rfl, hE23, hB⟩ := hr
      have hL23 : Lay G23.2.2 := by rw [hE23]; exact hL22
      show Ev K mL_law 12 319 [(0, .float 1), (1, .ref 1), (2, .ref 66), (3, .ref 103), (4, .int x4)] [.int r23, .int r22] G23 _
      refine E_icmp_eq (tgt := 1095) dL_law_319 (by decide) (fun c => ?_) (fun c => ?_)
      · have hB := hB.1 c
        exact hB
      · have hB := hB.2 c
        refine E_iconst (v := 0) dL_law_322 (by decide) ?_
        exact E_zret rfl (Or.inl rfl) dL_law_323 ⟨_, rfl, hB⟩
    obtain ⟨hA, hB⟩ := hB
    by_cases c2 : ((kx K (Int32.toNatClampNeg x4)) &&& 31) = 2
    · have hB := hA c2
      refine E_tableIn (off := 284) (tgt := 324) dL_law_40 (by rw [c2]; decide) (by rw [c2]; decide) (by rw [c2]; decide) (by decide) ?_
      refine E_aload_n 1 dL_law_324 rfl rfl rfl ?_
      refine E_cV (ci := 10) (as := []) (st := []) cm_X11_rows cV_L_31 ⟨_, _, rfl⟩ (by decide) (lo_1 hL) rfl rfl (by decide) (Nat.le_of_ble_eq_true rfl) (Nat.le_of_ble_eq_true rfl) dL_law_325 hB (fun r G24 hr => ?_)
      obtain ⟨r24, rfl, hE24, hB⟩ := hr
      have hL24 : Lay G24.2.2 := by rw [hE24]; exact hL
      show Ev K mL_law 12 328 [(0, .float 1), (1, .ref 1), (2, .ref 66), (3, .ref 103), (4, .int x4)] [.int r24] G24 _
      refine E_aload_n 2 dL_law_328 rfl rfl rfl ?_
      refine E_cV (ci := 11) (as := []) (st := [.int r24]) cm_X12_rows cV_L_34 ⟨_, _, rfl⟩ (by decide) (lo_66 hL24) rfl rfl (by decide) (Nat.le_of_ble_eq_true rfl) (Nat.le_of_ble_eq_true rfl) dL_law_329 hB (fun r G25 hr => ?_)
      obtain ⟨r25, rfl, hE25, hB⟩ := hr
      have hL25 : Lay G25.2.2 := by rw [hE25]; exact hL24
      show Ev K mL_law 12 332 [(0, .float 1), (1, .ref 1), (2, .ref 66), (3, .ref 103), (4, .int x4)] [.int r25, .int r24] G25 _
      refine E_icmp_eq (tgt := 1095) dL_law_332 (by decide) (fun c => ?_) (fun c => ?_)
      · have hB := hB.1 c
        exact hB
      · have hB := hB.2 c
        refine E_iconst (v := 0) dL_law_335 (by decide) ?_
        exact E_zret rfl (Or.inl rfl) dL_law_336 ⟨_, rfl, hB⟩
    obtain ⟨hA, hB⟩ := hB
    by_cases c3 : ((kx K (Int32.toNatClampNeg x4)) &&& 31) = 3
    · have hB := hA c3
      refine E_tableIn (off := 297) (tgt := 337) dL_law_40 (by rw [c3]; decide) (by rw [c3]; decide) (by rw [c3]; decide) (by decide) ?_
      refine E_aload_n 1 dL_law_337 rfl rfl rfl ?_
      refine E_cV (ci := 10) (as := []) (st := []) cm_X11_ask cV_L_35 ⟨_, _, rfl⟩ (by decide) (lo_1 hL) rfl rfl (by decide) (Nat.le_of_ble_eq_true rfl) (Nat.le_of_ble_eq_true rfl) dL_law_338 hB (fun r G26 hr => ?_)
      obtain ⟨r26, rfl, hL26, hB⟩ := hr
      show Ev K mL_law 12 341 [(0, .float 1), (1, .ref 1), (2, .ref 66), (3, .ref 103), (4, .int x4)] [.int r26] G26 _
      refine E_aload_n 2 dL_law_341 rfl rfl rfl ?_
      refine E_cV (ci := 11) (as := []) (st := [.int r26]) cm_X12_ask cV_L_38 ⟨_, _, rfl⟩ (by decide) (lo_66 hL26) rfl rfl (by decide) (Nat.le_of_ble_eq_true rfl) (Nat.le_of_ble_eq_true rfl) dL_law_342 hB (fun r G27 hr => ?_)
      obtain ⟨r27, rfl, hE27, hB⟩ := hr
      have hL27 : Lay G27.2.2 := by rw [hE27]; exact hL26
      show Ev K mL_law 12 345 [(0, .float 1), (1, .ref 1), (2, .ref 66), (3, .ref 103), (4, .int x4)] [.int r27, .int r26] G27 _
      refine E_icmp_eq (tgt := 1095) dL_law_345 (by decide) (fun c => ?_) (fun c => ?_)
      · have hB := hB.1 c
        exact hB
      · have hB := hB.2 c
        refine E_iconst (v := 0) dL_law_348 (by decide) ?_
        exact E_zret rfl (Or.inl rfl) dL_law_349 ⟨_, rfl, hB⟩
    obtain ⟨hA, hB⟩ := hB
    by_cases c4 : ((kx K (Int32.toNatClampNeg x4)) &&& 31) = 4
    · have hB := hA c4
      refine E_tableIn (off := 310) (tgt := 350) dL_law_40 (by rw [c4]; decide) (by rw [c4]; decide) (by rw [c4]; decide) (by decide) ?_
      refine E_aload_n 1 dL_law_350 rfl rfl rfl ?_
      refine E_cV (ci := 10) (as := []) (st := []) cm_X11_question cV_L_39 ⟨_, _, rfl⟩ (by decide) (lo_1 hL) rfl rfl (by decide) (Nat.le_of_ble_eq_true rfl) (Nat.le_of_ble_eq_true rfl) dL_law_351 hB (fun r G28 hr => ?_)
      obtain ⟨r28, rfl, hL28, hB⟩ := hr
      show Ev K mL_law 12 354 [(0, .float 1), (1, .ref 1), (2, .ref 66), (3, .ref 103), (4, .int x4)] [.int r28] G28 _
      refine E_aload_n 2 dL_law_354 rfl rfl rfl ?_
      refine E_cV (ci := 11) (as := []) (st := [.int r28]) cm_X12_question cV_L_42 ⟨_, _, rfl⟩ (by decide) (lo_66 hL28) rfl rfl (by decide) (Nat.le_of_ble_eq_true rfl) (Nat.le_of_ble_eq_true rfl) dL_law_355 hB (fun r G29 hr => ?_)
      obtain ⟨r29, rfl, hE29, hB⟩ := hr
      have hL29 : Lay G29.2.2 := by rw [hE29]; exact hL28
      show Ev K mL_law 12 358 [(0, .float 1), (1, .ref 1), (2, .ref 66), (3, .ref 103), (4, .int x4)] [.int r29, .int r28] G29 _
      refine E_icmp_eq (tgt := 1095) dL_law_358 (by decide) (fun c => ?_) (fun c => ?_)
      · have hB := hB.1 c
        exact hB
      · have hB := hB.2 c
        refine E_iconst (v := 0) dL_law_361 (by decide) ?_
        exact E_zret rfl (Or.inl rfl) dL_law_362 ⟨_, rfl, hB⟩
    obtain ⟨hA, hB⟩ := hB
    by_cases c5 : ((kx K (Int32.toNatClampNeg x4)) &&& 31) = 5
    · have hB := hA c5
      refine E_tableIn (off := 323) (tgt := 363) dL_law_40 (by rw [c5]; decide) (by rw [c5]; decide) (by rw [c5]; decide) (by decide) ?_
      refine E_aload_n 1 dL_law_363 rfl rfl rfl ?_
      refine E_aload_n 0 dL_law_364 rfl rfl rfl ?_
      refine E_iload 4 dL_law_365 rfl ?_
      refine E_iconst (v := 1) dL_law_367 (by decide) ?_
      refine E_iadd dL_law_368 ?_
      obtain ⟨qq30, hB⟩ := hB
      refine E_ldScr qq30 dL_law_369 ?_
      refine E_cV (ci := 10) (as := [.int (kx K (Int32.toNatClampNeg (x4 + 1)))]) (st := []) cm_X11_width cV_L_43 ⟨_, _, rfl⟩ (by decide) (lo_1 hL) rfl rfl (by decide) (Nat.le_of_ble_eq_true rfl) (Nat.le_of_ble_eq_true rfl) dL_law_370 hB (fun r G31 hr => ?_)
      obtain ⟨r31, rfl, hE31, hB⟩ := hr
      have hL31 : Lay G31.2.2 := by rw [hE31]; exact hL
      show Ev K mL_law 12 373 [(0, .float 1), (1, .ref 1), (2, .ref 66), (3, .ref 103), (4, .int x4)] [.int r31] G31 _
      refine E_aload_n 2 dL_law_373 rfl rfl rfl ?_
      refine E_aload_n 0 dL_law_374 rfl rfl rfl ?_
      refine E_iload 4 dL_law_375 rfl ?_
      refine E_iconst (v := 1) dL_law_377 (by decide) ?_
      refine E_iadd dL_law_378 ?_
      obtain ⟨qq32, hB⟩ := hB
      refine E_ldScr qq32 dL_law_379 ?_
      refine E_cV (ci := 11) (as := [.int (kx K (Int32.toNatClampNeg (x4 + 1)))]) (st := [.int r31]) cm_X12_width cV_L_47 ⟨_, _, rfl⟩ (by decide) (lo_66 hL31) rfl rfl (by decide) (Nat.le_of_ble_eq_true rfl) (Nat.le_of_ble_eq_true rfl) dL_law_380 hB (fun r G33 hr => ?_)
      obtain ⟨r33, rfl, hE33, hB⟩ := hr
      have hL33 : Lay G33.2.2 := by rw [hE33]; exact hL31
      show Ev K mL_law 12 383 [(0, .float 1), (1, .ref 1), (2, .ref 66), (3, .ref 103), (4, .int x4)] [.int r33, .int r31] G33 _
      refine E_icmp_eq (tgt := 1095) dL_law_383 (by decide) (fun c => ?_) (fun c => ?_)
      · have hB := hB.1 c
        exact hB
      · have hB := hB.2 c
        refine E_iconst (v := 0) dL_law_386 (by decide) ?_
        exact E_zret rfl (Or.inl rfl) dL_law_387 ⟨_, rfl, hB⟩
    obtain ⟨hA, hB⟩ := hB
    by_cases c6 : ((kx K (Int32.toNatClampNeg x4)) &&& 31) = 6
    · have hB := hA c6
      refine E_tableIn (off := 348) (tgt := 388) dL_law_40 (by rw [c6]; decide) (by rw [c6]; decide) (by rw [c6]; decide) (by decide) ?_
      refine E_aload_n 1 dL_law_388 rfl rfl rfl ?_
      refine E_aload_n 0 dL_law_389 rfl rfl rfl ?_
      refine E_iload 4 dL_law_390 rfl ?_
      refine E_iconst (v := 1) dL_law_392 (by decide) ?_
      refine E_iadd dL_law_393 ?_
      obtain ⟨qq34, hB⟩ := hB
      refine E_ldScr qq34 dL_law_394 ?_
      refine E_aload_n 0 dL_law_395 rfl rfl rfl ?_
      refine E_iload 4 dL_law_396 rfl ?_
      refine E_iconst (v := 2) dL_law_398 (by decide) ?_
      refine E_iadd dL_law_399 ?_
      obtain ⟨qq35, hB⟩ := hB
      refine E_ldScr qq35 dL_law_400 ?_
      refine E_aload_n 3 dL_law_401 rfl rfl rfl ?_
      refine E_callRow tm_1215 (st := []) (Nat.le_of_ble_eq_true rfl) dL_law_402 hB (fun r36 G36 hr => ?_)
      obtain ⟨hL36, hB⟩ := hr
      refine E_istore (lv' := [(0, .float 1), (1, .ref 1), (2, .ref 66), (3, .ref 103), (4, .int x4), (5, .int r36)]) dL_law_405 (by decide) rfl ?_
      refine E_aload_n 2 dL_law_407 rfl rfl rfl ?_
      refine E_aload_n 0 dL_law_408 rfl rfl rfl ?_
      refine E_iload 4 dL_law_409 rfl ?_
      refine E_iconst (v := 1) dL_law_411 (by decide) ?_
      refine E_iadd dL_law_412 ?_
      obtain ⟨qq37, hB⟩ := hB
      refine E_ldScr qq37 dL_law_413 ?_
      refine E_aload_n 0 dL_law_414 rfl rfl rfl ?_
      refine E_iload 4 dL_law_415 rfl ?_
      refine E_iconst (v := 2) dL_law_417 (by decide) ?_
      refine E_iadd dL_law_418 ?_
      obtain ⟨qq38, hB⟩ := hB
      refine E_ldScr qq38 dL_law_419 ?_
      refine E_cV (ci := 11) (as := [.int (kx K (Int32.toNatClampNeg (x4 + 1))), .int (kx K (Int32.toNatClampNeg (x4 + 2)))]) (st := []) cm_X12_row cV_L_53 ⟨_, _, rfl⟩ (by decide) (lo_66 hL36) rfl rfl (by decide) (Nat.le_of_ble_eq_true rfl) (Nat.le_of_ble_eq_true rfl) dL_law_420 hB (fun r G39 hr => ?_)
      obtain ⟨r39, rfl, hE39, hB⟩ := hr
      have hL39 : Lay G39.2.2 := by rw [hE39]; exact hL36
      show Ev K mL_law 12 423 [(0, .float 1), (1, .ref 1), (2, .ref 66), (3, .ref 103), (4, .int x4), (5, .int r36)] [.int r39] G39 _
      refine E_istore (lv' := [(0, .float 1), (1, .ref 1), (2, .ref 66), (3, .ref 103), (4, .int x4), (5, .int r36), (6, .int r39)]) dL_law_423 (by decide) rfl ?_
      refine E_aload_n 2 dL_law_425 rfl rfl rfl ?_
      refine E_cV (ci := 11) (as := []) (st := []) cm_X12_thrown cV_L_54 ⟨_, _, rfl⟩ (by decide) (lo_66 hL39) rfl rfl (by decide) (Nat.le_of_ble_eq_true rfl) (Nat.le_of_ble_eq_true rfl) dL_law_426 hB (fun r G40 hr => ?_)
      obtain ⟨r40, rfl, hE40, hB⟩ := hr
      have hL40 : Lay G40.2.2 := by rw [hE40]; exact hL39
      show Ev K mL_law 12 429 [(0, .float 1), (1, .ref 1), (2, .ref 66), (3, .ref 103), (4, .int x4), (5, .int r36), (6, .int r39)] [.int r40] G40 _
      refine E_iload 5 dL_law_429 rfl ?_
      refine E_icmp_eq (tgt := 436) dL_law_431 (by decide) (fun c => ?_) (fun c => ?_)
      · have hB := hB.1 c
        refine E_iload 5 dL_law_436 rfl ?_
        refine E_if_ne (tgt := 453) dL_law_438 (by decide) (fun c => ?_) (fun c => ?_)
        · have hB := hB.1 c
          refine E_sub (lv' := [(0, .float 1), (1, .ref 1), (2, .ref 66), (3, .ref 103), (4, .int x4)]) [0, 1, 2, 3, 4] rfl ?_
          exact hB
        · have hB := hB.2 c
          refine E_aload_n 3 dL_law_441 rfl rfl rfl ?_
          refine E_iconst (v := 0) dL_law_442 (by decide) ?_
          refine E_aL (p := 0) (v := sL G40 103 0) (la_103 hL40) (by unfold vp_in; decide) (by decide) rfl dL_law_443 ?_
          refine E_iload 6 dL_law_444 rfl ?_
          refine E_i2l dL_law_446 rfl ?_
          refine E_lcmp dL_law_447 ?_
          refine E_if_eq (tgt := 453) dL_law_448 (by decide) (fun c => ?_) (fun c => ?_)
          · have hB := hB.1 ((lgc_eq (sL G40 103 0) (Int32.toInt64 r39)).mp c)
            refine E_sub (lv' := [(0, .float 1), (1, .ref 1), (2, .ref 66), (3, .ref 103), (4, .int x4)]) [0, 1, 2, 3, 4] rfl ?_
            exact hB
          · have hB := hB.2 (fun q => c ((lgc_eq (sL G40 103 0) (Int32.toInt64 r39)).mpr q))
            refine E_iconst (v := 0) dL_law_451 (by decide) ?_
            exact E_zret rfl (Or.inl rfl) dL_law_452 ⟨_, rfl, hB⟩
      · have hB := hB.2 c
        refine E_iconst (v := 0) dL_law_434 (by decide) ?_
        exact E_zret rfl (Or.inl rfl) dL_law_435 ⟨_, rfl, hB⟩
    obtain ⟨hA, hB⟩ := hB
    by_cases c7 : ((kx K (Int32.toNatClampNeg x4)) &&& 31) = 7
    · have hB := hA c7
      refine E_tableIn (off := 416) (tgt := 456) dL_law_40 (by rw [c7]; decide) (by rw [c7]; decide) (by rw [c7]; decide) (by decide) ?_
      refine E_aload_n 1 dL_law_456 rfl rfl rfl ?_
      refine E_aload_n 0 dL_law_457 rfl rfl rfl ?_
      refine E_iload 4 dL_law_458 rfl ?_
      refine E_iconst (v := 1) dL_law_460 (by decide) ?_
      refine E_iadd dL_law_461 ?_
      obtain ⟨qq41, hB⟩ := hB
      refine E_ldScr qq41 dL_law_462 ?_
      refine E_aload_n 0 dL_law_463 rfl rfl rfl ?_
      refine E_iload 4 dL_law_464 rfl ?_
      refine E_iconst (v := 2) dL_law_466 (by decide) ?_
      refine E_iadd dL_law_467 ?_
      obtain ⟨qq42, hB⟩ := hB
      refine E_ldScr qq42 dL_law_468 ?_
      refine E_cV (ci := 10) (as := [.int (kx K (Int32.toNatClampNeg (x4 + 1))), .int (kx K (Int32.toNatClampNeg (x4 + 2)))]) (st := []) cm_X11_cell cV_L_57 ⟨_, _, rfl⟩ (by decide) (lo_1 hL) rfl rfl (by decide) (Nat.le_of_ble_eq_true rfl) (Nat.le_of_ble_eq_true rfl) dL_law_469 hB (fun r G43 hr => ?_)
      obtain ⟨r43, rfl, hE43, hB⟩ := hr
      have hL43 : Lay G43.2.2 := by rw [hE43]; exact hL
      show Ev K mL_law 12 472 [(0, .float 1), (1, .ref 1), (2, .ref 66), (3, .ref 103), (4, .int x4)] [.long r43] G43 _
      refine E_aload_n 2 dL_law_472 rfl rfl rfl ?_
      refine E_aload_n 0 dL_law_473 rfl rfl rfl ?_
      refine E_iload 4 dL_law_474 rfl ?_
      refine E_iconst (v := 1) dL_law_476 (by decide) ?_
      refine E_iadd dL_law_477 ?_
      obtain ⟨qq44, hB⟩ := hB
      refine E_ldScr qq44 dL_law_478 ?_
      refine E_aload_n 0 dL_law_479 rfl rfl rfl ?_
      refine E_iload 4 dL_law_480 rfl ?_
      refine E_iconst (v := 2) dL_law_482 (by decide) ?_
      refine E_iadd dL_law_483 ?_
      obtain ⟨qq45, hB⟩ := hB
      refine E_ldScr qq45 dL_law_484 ?_
      refine E_cV (ci := 11) (as := [.int (kx K (Int32.toNatClampNeg (x4 + 1))), .int (kx K (Int32.toNatClampNeg (x4 + 2)))]) (st := [.long r43]) cm_X12_cell cV_L_61 ⟨_, _, rfl⟩ (by decide) (lo_66 hL43) rfl rfl (by decide) (Nat.le_of_ble_eq_true rfl) (Nat.le_of_ble_eq_true rfl) dL_law_485 hB (fun r G46 hr => ?_)
      obtain ⟨r46, rfl, hE46, hB⟩ := hr
      have hL46 : Lay G46.2.2 := by rw [hE46]; exact hL43
      show Ev K mL_law 12 488 [(0, .float 1), (1, .ref 1), (2, .ref 66), (3, .ref 103), (4, .int x4)] [.long r46, .long r43] G46 _
      refine E_lcmp dL_law_488 ?_
      refine E_if_eq (tgt := 1095) dL_law_489 (by decide) (fun c => ?_) (fun c => ?_)
      · have hB := hB.1 ((lgc_eq r43 r46).mp c)
        exact hB
      · have hB := hB.2 (fun q => c ((lgc_eq r43 r46).mpr q))
        refine E_iconst (v := 0) dL_law_492 (by decide) ?_
        exact E_zret rfl (Or.inl rfl) dL_law_493 ⟨_, rfl, hB⟩
    obtain ⟨hA, hB⟩ := hB
    by_cases c8 : ((kx K (Int32.toNatClampNeg x4)) &&& 31) = 8
    · have hB := hA c8
      refine E_tableIn (off := 454) (tgt := 494) dL_law_40 (by rw [c8]; decide) (by rw [c8]; decide) (by rw [c8]; decide) (by decide) ?_
      refine E_aload_n 1 dL_law_494 rfl rfl rfl ?_
      refine E_aload_n 0 dL_law_495 rfl rfl rfl ?_
      refine E_iload 4 dL_law_496 rfl ?_
      refine E_iconst (v := 1) dL_law_498 (by decide) ?_
      refine E_iadd dL_law_499 ?_
      obtain ⟨qq47, hB⟩ := hB
      refine E_ldScr qq47 dL_law_500 ?_
      refine E_aload_n 0 dL_law_501 rfl rfl rfl ?_
      refine E_iload 4 dL_law_502 rfl ?_
      refine E_iconst (v := 2) dL_law_504 (by decide) ?_
      refine E_iadd dL_law_505 ?_
      obtain ⟨qq48, hB⟩ := hB
      refine E_ldScr qq48 dL_law_506 ?_
      refine E_cV (ci := 10) (as := [.int (kx K (Int32.toNatClampNeg (x4 + 1))), .int (kx K (Int32.toNatClampNeg (x4 + 2)))]) (st := []) cm_X11_holds cV_L_62 ⟨_, _, rfl⟩ (by decide) (lo_1 hL) rfl rfl (by decide) (Nat.le_of_ble_eq_true rfl) (Nat.le_of_ble_eq_true rfl) dL_law_507 hB (fun r G49 hr => ?_)
      obtain ⟨r49, rfl, hE49, hB⟩ := hr
      have hL49 : Lay G49.2.2 := by rw [hE49]; exact hL
      show Ev K mL_law 12 510 [(0, .float 1), (1, .ref 1), (2, .ref 66), (3, .ref 103), (4, .int x4)] [.int r49] G49 _
      refine E_aload_n 2 dL_law_510 rfl rfl rfl ?_
      refine E_aload_n 0 dL_law_511 rfl rfl rfl ?_
      refine E_iload 4 dL_law_512 rfl ?_
      refine E_iconst (v := 1) dL_law_514 (by decide) ?_
      refine E_iadd dL_law_515 ?_
      obtain ⟨qq50, hB⟩ := hB
      refine E_ldScr qq50 dL_law_516 ?_
      refine E_aload_n 0 dL_law_517 rfl rfl rfl ?_
      refine E_iload 4 dL_law_518 rfl ?_
      refine E_iconst (v := 2) dL_law_520 (by decide) ?_
      refine E_iadd dL_law_521 ?_
      obtain ⟨qq51, hB⟩ := hB
      refine E_ldScr qq51 dL_law_522 ?_
      refine E_cV (ci := 11) (as := [.int (kx K (Int32.toNatClampNeg (x4 + 1))), .int (kx K (Int32.toNatClampNeg (x4 + 2)))]) (st := [.int r49]) cm_X12_holds cV_L_65 ⟨_, _, rfl⟩ (by decide) (lo_66 hL49) rfl rfl (by decide) (Nat.le_of_ble_eq_true rfl) (Nat.le_of_ble_eq_true rfl) dL_law_523 hB (fun r G52 hr => ?_)
      obtain ⟨r52, rfl, hE52, hB⟩ := hr
      have hL52 : Lay G52.2.2 := by rw [hE52]; exact hL49
      show Ev K mL_law 12 526 [(0, .float 1), (1, .ref 1), (2, .ref 66), (3, .ref 103), (4, .int x4)] [.int r52, .int r49] G52 _
      refine E_icmp_eq (tgt := 1095) dL_law_526 (by decide) (fun c => ?_) (fun c => ?_)
      · have hB := hB.1 c
        exact hB
      · have hB := hB.2 c
        refine E_iconst (v := 0) dL_law_529 (by decide) ?_
        exact E_zret rfl (Or.inl rfl) dL_law_530 ⟨_, rfl, hB⟩
    obtain ⟨hA, hB⟩ := hB
    by_cases c9 : ((kx K (Int32.toNatClampNeg x4)) &&& 31) = 9
    · have hB := hA c9
      refine E_tableIn (off := 491) (tgt := 531) dL_law_40 (by rw [c9]; decide) (by rw [c9]; decide) (by rw [c9]; decide) (by decide) ?_
      refine E_aload_n 1 dL_law_531 rfl rfl rfl ?_
      refine E_aload_n 0 dL_law_532 rfl rfl rfl ?_
      refine E_iload 4 dL_law_533 rfl ?_
      refine E_iconst (v := 1) dL_law_535 (by decide) ?_
      refine E_iadd dL_law_536 ?_
      obtain ⟨qq53, hB⟩ := hB
      refine E_ldScr qq53 dL_law_537 ?_
      refine E_cV (ci := 10) (as := [.int (kx K (Int32.toNatClampNeg (x4 + 1)))]) (st := []) cm_X11_found cV_L_66 ⟨_, _, rfl⟩ (by decide) (lo_1 hL) rfl rfl (by decide) (Nat.le_of_ble_eq_true rfl) (Nat.le_of_ble_eq_true rfl) dL_law_538 hB (fun r G54 hr => ?_)
      obtain ⟨r54, rfl, hE54, hB⟩ := hr
      have hL54 : Lay G54.2.2 := by rw [hE54]; exact hL
      show Ev K mL_law 12 541 [(0, .float 1), (1, .ref 1), (2, .ref 66), (3, .ref 103), (4, .int x4)] [.int r54] G54 _
      refine E_aload_n 2 dL_law_541 rfl rfl rfl ?_
      refine E_aload_n 0 dL_law_542 rfl rfl rfl ?_
      refine E_iload 4 dL_law_543 rfl ?_
      refine E_iconst (v := 1) dL_law_545 (by decide) ?_
      refine E_iadd dL_law_546 ?_
      obtain ⟨qq55, hB⟩ := hB
      refine E_ldScr qq55 dL_law_547 ?_
      refine E_cV (ci := 11) (as := [.int (kx K (Int32.toNatClampNeg (x4 + 1)))]) (st := [.int r54]) cm_X12_found cV_L_70 ⟨_, _, rfl⟩ (by decide) (lo_66 hL54) rfl rfl (by decide) (Nat.le_of_ble_eq_true rfl) (Nat.le_of_ble_eq_true rfl) dL_law_548 hB (fun r G56 hr => ?_)
      obtain ⟨r56, rfl, hE56, hB⟩ := hr
      have hL56 : Lay G56.2.2 := by rw [hE56]; exact hL54
      show Ev K mL_law 12 551 [(0, .float 1), (1, .ref 1), (2, .ref 66), (3, .ref 103), (4, .int x4)] [.int r56, .int r54] G56 _
      refine E_icmp_eq (tgt := 1095) dL_law_551 (by decide) (fun c => ?_) (fun c => ?_)
      · have hB := hB.1 c
        exact hB
      · have hB := hB.2 c
        refine E_iconst (v := 0) dL_law_554 (by decide) ?_
        exact E_zret rfl (Or.inl rfl) dL_law_555 ⟨_, rfl, hB⟩
    obtain ⟨hA, hB⟩ := hB
    by_cases c10 : ((kx K (Int32.toNatClampNeg x4)) &&& 31) = 10
    · have hB := hA c10
      refine E_tableIn (off := 516) (tgt := 556) dL_law_40 (by rw [c10]; decide) (by rw [c10]; decide) (by rw [c10]; decide) (by decide) ?_
      refine E_aload_n 1 dL_law_556 rfl rfl rfl ?_
      refine E_aload_n 0 dL_law_557 rfl rfl rfl ?_
      refine E_iload 4 dL_law_558 rfl ?_
      refine E_iconst (v := 1) dL_law_560 (by decide) ?_
      refine E_iadd dL_law_561 ?_
      obtain ⟨qq57, hB⟩ := hB
      refine E_ldScr qq57 dL_law_562 ?_
      refine E_aload_n 0 dL_law_563 rfl rfl rfl ?_
      refine E_iload 4 dL_law_564 rfl ?_
      refine E_iconst (v := 2) dL_law_566 (by decide) ?_
      refine E_iadd dL_law_567 ?_
      obtain ⟨qq58, hB⟩ := hB
      refine E_ldScr qq58 dL_law_568 ?_
      refine E_cV (ci := 10) (as := [.int (kx K (Int32.toNatClampNeg (x4 + 1))), .int (kx K (Int32.toNatClampNeg (x4 + 2)))]) (st := []) cm_X11_tie cV_L_71 ⟨_, _, rfl⟩ (by decide) (lo_1 hL) rfl rfl (by decide) (Nat.le_of_ble_eq_true rfl) (Nat.le_of_ble_eq_true rfl) dL_law_569 hB (fun r G59 hr => ?_)
      obtain ⟨r59, rfl, hE59, hB⟩ := hr
      have hL59 : Lay G59.2.2 := by rw [hE59]; exact hL
      show Ev K mL_law 12 572 [(0, .float 1), (1, .ref 1), (2, .ref 66), (3, .ref 103), (4, .int x4)] [.int r59] G59 _
      refine E_aload_n 2 dL_law_572 rfl rfl rfl ?_
      refine E_aload_n 0 dL_law_573 rfl rfl rfl ?_
      refine E_iload 4 dL_law_574 rfl ?_
      refine E_iconst (v := 1) dL_law_576 (by decide) ?_
      refine E_iadd dL_law_577 ?_
      obtain ⟨qq60, hB⟩ := hB
      refine E_ldScr qq60 dL_law_578 ?_
      refine E_aload_n 0 dL_law_579 rfl rfl rfl ?_
      refine E_iload 4 dL_law_580 rfl ?_
      refine E_iconst (v := 2) dL_law_582 (by decide) ?_
      refine E_iadd dL_law_583 ?_
      obtain ⟨qq61, hB⟩ := hB
      refine E_ldScr qq61 dL_law_584 ?_
      refine E_cV (ci := 11) (as := [.int (kx K (Int32.toNatClampNeg (x4 + 1))), .int (kx K (Int32.toNatClampNeg (x4 + 2)))]) (st := [.int r59]) cm_X12_tie cV_L_74 ⟨_, _, rfl⟩ (by decide) (lo_66 hL59) rfl rfl (by decide) (Nat.le_of_ble_eq_true rfl) (Nat.le_of_ble_eq_true rfl) dL_law_585 hB (fun r G62 hr => ?_)
      obtain ⟨r62, rfl, hE62, hB⟩ := hr
      have hL62 : Lay G62.2.2 := by rw [hE62]; exact hL59
      show Ev K mL_law 12 588 [(0, .float 1), (1, .ref 1), (2, .ref 66), (3, .ref 103), (4, .int x4)] [.int r62, .int r59] G62 _
      refine E_icmp_eq (tgt := 1095) dL_law_588 (by decide) (fun c => ?_) (fun c => ?_)
      · have hB := hB.1 c
        exact hB
      · have hB := hB.2 c
        refine E_iconst (v := 0) dL_law_591 (by decide) ?_
        exact E_zret rfl (Or.inl rfl) dL_law_592 ⟨_, rfl, hB⟩
    obtain ⟨hA, hB⟩ := hB
    by_cases c11 : ((kx K (Int32.toNatClampNeg x4)) &&& 31) = 11
    · have hB := hA c11
      refine E_tableIn (off := 553) (tgt := 593) dL_law_40 (by rw [c11]; decide) (by rw [c11]; decide) (by rw [c11]; decide) (by decide) ?_
      refine E_aload_n 1 dL_law_593 rfl rfl rfl ?_
      refine E_aload_n 0 dL_law_594 rfl rfl rfl ?_
      refine E_iload 4 dL_law_595 rfl ?_
      refine E_iconst (v := 1) dL_law_597 (by decide) ?_
      refine E_iadd dL_law_598 ?_
      obtain ⟨qq63, hB⟩ := hB
      refine E_ldScr qq63 dL_law_599 ?_
      refine E_aload_n 0 dL_law_600 rfl rfl rfl ?_
      refine E_iload 4 dL_law_601 rfl ?_
      refine E_iconst (v := 2) dL_law_603 (by decide) ?_
      refine E_iadd dL_law_604 ?_
      obtain ⟨qq64, hB⟩ := hB
      refine E_ldScr qq64 dL_law_605 ?_
      refine E_cV (ci := 10) (as := [.int (kx K (Int32.toNatClampNeg (x4 + 1))), .int (kx K (Int32.toNatClampNeg (x4 + 2)))]) (st := []) cm_X11_joining cV_L_75 ⟨_, _, rfl⟩ (by decide) (lo_1 hL) rfl rfl (by decide) (Nat.le_of_ble_eq_true rfl) (Nat.le_of_ble_eq_true rfl) dL_law_606 hB (fun r G65 hr => ?_)
      obtain ⟨r65, rfl, hL65, hB⟩ := hr
      show Ev K mL_law 12 609 [(0, .float 1), (1, .ref 1), (2, .ref 66), (3, .ref 103), (4, .int x4)] [.int r65] G65 _
      refine E_aload_n 2 dL_law_609 rfl rfl rfl ?_
      refine E_aload_n 0 dL_law_610 rfl rfl rfl ?_
      refine E_iload 4 dL_law_611 rfl ?_
      refine E_iconst (v := 1) dL_law_613 (by decide) ?_
      refine E_iadd dL_law_614 ?_
      obtain ⟨qq66, hB⟩ := hB
      refine E_ldScr qq66 dL_law_615 ?_
      refine E_aload_n 0 dL_law_616 rfl rfl rfl ?_
      refine E_iload 4 dL_law_617 rfl ?_
      refine E_iconst (v := 2) dL_law_619 (by decide) ?_
      refine E_iadd dL_law_620 ?_
      obtain ⟨qq67, hB⟩ := hB
      refine E_ldScr qq67 dL_law_621 ?_
      refine E_cV (ci := 11) (as := [.int (kx K (Int32.toNatClampNeg (x4 + 1))), .int (kx K (Int32.toNatClampNeg (x4 + 2)))]) (st := [.int r65]) cm_X12_joining cV_L_78 ⟨_, _, rfl⟩ (by decide) (lo_66 hL65) rfl rfl (by decide) (Nat.le_of_ble_eq_true rfl) (Nat.le_of_ble_eq_true rfl) dL_law_622 hB (fun r G68 hr => ?_)
      obtain ⟨r68, rfl, hE68, hB⟩ := hr
      have hL68 : Lay G68.2.2 := by rw [hE68]; exact hL65
      show Ev K mL_law 12 625 [(0, .float 1), (1, .ref 1), (2, .ref 66), (3, .ref 103), (4, .int x4)] [.int r68, .int r65] G68 _
      refine E_icmp_eq (tgt := 1095) dL_law_625 (by decide) (fun c => ?_) (fun c => ?_)
      · have hB := hB.1 c
        exact hB
      · have hB := hB.2 c
        refine E_iconst (v := 0) dL_law_628 (by decide) ?_
        exact E_zret rfl (Or.inl rfl) dL_law_629 ⟨_, rfl, hB⟩
    obtain ⟨hA, hB⟩ := hB
    by_cases c12 : ((kx K (Int32.toNatClampNeg x4)) &&& 31) = 12
    · have hB := hA c12
      refine E_tableIn (off := 590) (tgt := 630) dL_law_40 (by rw [c12]; decide) (by rw [c12]; decide) (by rw [c12]; decide) (by decide) ?_
      refine E_aload_n 1 dL_law_630 rfl rfl rfl ?_
      refine E_aload_n 0 dL_law_631 rfl rfl rfl ?_
      refine E_iload 4 dL_law_632 rfl ?_
      refine E_iconst (v := 1) dL_law_634 (by decide) ?_
      refine E_iadd dL_law_635 ?_
      obtain ⟨qq69, hB⟩ := hB
      refine E_ldScr qq69 dL_law_636 ?_
      refine E_aload_n 0 dL_law_637 rfl rfl rfl ?_
      refine E_iload 4 dL_law_638 rfl ?_
      refine E_iconst (v := 2) dL_law_640 (by decide) ?_
      refine E_iadd dL_law_641 ?_
      obtain ⟨qq70, hB⟩ := hB
      refine E_ldScr qq70 dL_law_642 ?_
      refine E_cV (ci := 10) (as := [.int (kx K (Int32.toNatClampNeg (x4 + 1))), .int (kx K (Int32.toNatClampNeg (x4 + 2)))]) (st := []) cm_X11_place cV_L_79 ⟨_, _, rfl⟩ (by decide) (lo_1 hL) rfl rfl (by decide) (Nat.le_of_ble_eq_true rfl) (Nat.le_of_ble_eq_true rfl) dL_law_643 hB (fun r G71 hr => ?_)
      obtain ⟨r71, rfl, hL71, hB⟩ := hr
      show Ev K mL_law 12 646 [(0, .float 1), (1, .ref 1), (2, .ref 66), (3, .ref 103), (4, .int x4)] [.int r71] G71 _
      refine E_aload_n 2 dL_law_646 rfl rfl rfl ?_
      refine E_aload_n 0 dL_law_647 rfl rfl rfl ?_
      refine E_iload 4 dL_law_648 rfl ?_
      refine E_iconst (v := 1) dL_law_650 (by decide) ?_
      refine E_iadd dL_law_651 ?_
      obtain ⟨qq72, hB⟩ := hB
      refine E_ldScr qq72 dL_law_652 ?_
      refine E_aload_n 0 dL_law_653 rfl rfl rfl ?_
      refine E_iload 4 dL_law_654 rfl ?_
      refine E_iconst (v := 2) dL_law_656 (by decide) ?_
      refine E_iadd dL_law_657 ?_
      obtain ⟨qq73, hB⟩ := hB
      refine E_ldScr qq73 dL_law_658 ?_
      refine E_cV (ci := 11) (as := [.int (kx K (Int32.toNatClampNeg (x4 + 1))), .int (kx K (Int32.toNatClampNeg (x4 + 2)))]) (st := [.int r71]) cm_X12_place cV_L_82 ⟨_, _, rfl⟩ (by decide) (lo_66 hL71) rfl rfl (by decide) (Nat.le_of_ble_eq_true rfl) (Nat.le_of_ble_eq_true rfl) dL_law_659 hB (fun r G74 hr => ?_)
      obtain ⟨r74, rfl, hE74, hB⟩ := hr
      have hL74 : Lay G74.2.2 := by rw [hE74]; exact hL71
      show Ev K mL_law 12 662 [(0, .float 1), (1, .ref 1), (2, .ref 66), (3, .ref 103), (4, .int x4)] [.int r74, .int r71] G74 _
      refine E_icmp_eq (tgt := 1095) dL_law_662 (by decide) (fun c => ?_) (fun c => ?_)
      · have hB := hB.1 c
        exact hB
      · have hB := hB.2 c
        refine E_iconst (v := 0) dL_law_665 (by decide) ?_
        exact E_zret rfl (Or.inl rfl) dL_law_666 ⟨_, rfl, hB⟩
    obtain ⟨hA, hB⟩ := hB
    by_cases c13 : ((kx K (Int32.toNatClampNeg x4)) &&& 31) = 13
    · have hB := hA c13
      refine E_tableIn (off := 627) (tgt := 667) dL_law_40 (by rw [c13]; decide) (by rw [c13]; decide) (by rw [c13]; decide) (by decide) ?_
      refine E_aload_n 1 dL_law_667 rfl rfl rfl ?_
      refine E_aload_n 0 dL_law_668 rfl rfl rfl ?_
      refine E_iload 4 dL_law_669 rfl ?_
      refine E_iconst (v := 1) dL_law_671 (by decide) ?_
      refine E_iadd dL_law_672 ?_
      obtain ⟨qq75, hB⟩ := hB
      refine E_ldScr qq75 dL_law_673 ?_
      refine E_aload_n 0 dL_law_674 rfl rfl rfl ?_
      refine E_iload 4 dL_law_675 rfl ?_
      refine E_iconst (v := 2) dL_law_677 (by decide) ?_
      refine E_iadd dL_law_678 ?_
      obtain ⟨qq76, hB⟩ := hB
      refine E_ldScr qq76 dL_law_679 ?_
      refine E_cV (ci := 10) (as := [.int (kx K (Int32.toNatClampNeg (x4 + 1))), .int (kx K (Int32.toNatClampNeg (x4 + 2)))]) (st := []) cm_X11_looks cV_L_83 ⟨_, _, rfl⟩ (by decide) (lo_1 hL) rfl rfl (by decide) (Nat.le_of_ble_eq_true rfl) (Nat.le_of_ble_eq_true rfl) dL_law_680 hB (fun r G77 hr => ?_)
      obtain ⟨r77, rfl, hL77, hB⟩ := hr
      show Ev K mL_law 12 683 [(0, .float 1), (1, .ref 1), (2, .ref 66), (3, .ref 103), (4, .int x4)] [.int r77] G77 _
      refine E_aload_n 2 dL_law_683 rfl rfl rfl ?_
      refine E_aload_n 0 dL_law_684 rfl rfl rfl ?_
      refine E_iload 4 dL_law_685 rfl ?_
      refine E_iconst (v := 1) dL_law_687 (by decide) ?_
      refine E_iadd dL_law_688 ?_
      obtain ⟨qq78, hB⟩ := hB
      refine E_ldScr qq78 dL_law_689 ?_
      refine E_aload_n 0 dL_law_690 rfl rfl rfl ?_
      refine E_iload 4 dL_law_691 rfl ?_
      refine E_iconst (v := 2) dL_law_693 (by decide) ?_
      refine E_iadd dL_law_694 ?_
      obtain ⟨qq79, hB⟩ := hB
      refine E_ldScr qq79 dL_law_695 ?_
      refine E_cV (ci := 11) (as := [.int (kx K (Int32.toNatClampNeg (x4 + 1))), .int (kx K (Int32.toNatClampNeg (x4 + 2)))]) (st := [.int r77]) cm_X12_looks cV_L_86 ⟨_, _, rfl⟩ (by decide) (lo_66 hL77) rfl rfl (by decide) (Nat.le_of_ble_eq_true rfl) (Nat.le_of_ble_eq_true rfl) dL_law_696 hB (fun r G80 hr => ?_)
      obtain ⟨r80, rfl, hE80, hB⟩ := hr
      have hL80 : Lay G80.2.2 := by rw [hE80]; exact hL77
      show Ev K mL_law 12 699 [(0, .float 1), (1, .ref 1), (2, .ref 66), (3, .ref 103), (4, .int x4)] [.int r80, .int r77] G80 _
      refine E_icmp_eq (tgt := 1095) dL_law_699 (by decide) (fun c => ?_) (fun c => ?_)
      · have hB := hB.1 c
        exact hB
      · have hB := hB.2 c
        refine E_iconst (v := 0) dL_law_702 (by decide) ?_
        exact E_zret rfl (Or.inl rfl) dL_law_703 ⟨_, rfl, hB⟩
    obtain ⟨hA, hB⟩ := hB
    by_cases c14 : ((kx K (Int32.toNatClampNeg x4)) &&& 31) = 14
    · have hB := hA c14
      refine E_tableIn (off := 664) (tgt := 704) dL_law_40 (by rw [c14]; decide) (by rw [c14]; decide) (by rw [c14]; decide) (by decide) ?_
      refine E_aload_n 1 dL_law_704 rfl rfl rfl ?_
      refine E_aload_n 0 dL_law_705 rfl rfl rfl ?_
      refine E_iload 4 dL_law_706 rfl ?_
      refine E_iconst (v := 1) dL_law_708 (by decide) ?_
      refine E_iadd dL_law_709 ?_
      obtain ⟨qq81, hB⟩ := hB
      refine E_ldScr qq81 dL_law_710 ?_
      refine E_aload_n 0 dL_law_711 rfl rfl rfl ?_
      refine E_iload 4 dL_law_712 rfl ?_
      refine E_iconst (v := 2) dL_law_714 (by decide) ?_
      refine E_iadd dL_law_715 ?_
      obtain ⟨qq82, hB⟩ := hB
      refine E_ldScr qq82 dL_law_716 ?_
      refine E_cV (ci := 10) (as := [.int (kx K (Int32.toNatClampNeg (x4 + 1))), .int (kx K (Int32.toNatClampNeg (x4 + 2)))]) (st := []) cm_X11_asked cV_L_87 ⟨_, _, rfl⟩ (by decide) (lo_1 hL) rfl rfl (by decide) (Nat.le_of_ble_eq_true rfl) (Nat.le_of_ble_eq_true rfl) dL_law_717 hB (fun r G83 hr => ?_)
      obtain ⟨r83, rfl, hL83, hB⟩ := hr
      show Ev K mL_law 12 720 [(0, .float 1), (1, .ref 1), (2, .ref 66), (3, .ref 103), (4, .int x4)] [.int r83] G83 _
      refine E_aload_n 2 dL_law_720 rfl rfl rfl ?_
      refine E_aload_n 0 dL_law_721 rfl rfl rfl ?_
      refine E_iload 4 dL_law_722 rfl ?_
      refine E_iconst (v := 1) dL_law_724 (by decide) ?_
      refine E_iadd dL_law_725 ?_
      obtain ⟨qq84, hB⟩ := hB
      refine E_ldScr qq84 dL_law_726 ?_
      refine E_aload_n 0 dL_law_727 rfl rfl rfl ?_
      refine E_iload 4 dL_law_728 rfl ?_
      refine E_iconst (v := 2) dL_law_730 (by decide) ?_
      refine E_iadd dL_law_731 ?_
      obtain ⟨qq85, hB⟩ := hB
      refine E_ldScr qq85 dL_law_732 ?_
      refine E_cV (ci := 11) (as := [.int (kx K (Int32.toNatClampNeg (x4 + 1))), .int (kx K (Int32.toNatClampNeg (x4 + 2)))]) (st := [.int r83]) cm_X12_asked cV_L_90 ⟨_, _, rfl⟩ (by decide) (lo_66 hL83) rfl rfl (by decide) (Nat.le_of_ble_eq_true rfl) (Nat.le_of_ble_eq_true rfl) dL_law_733 hB (fun r G86 hr => ?_)
      obtain ⟨r86, rfl, hE86, hB⟩ := hr
      have hL86 : Lay G86.2.2 := by rw [hE86]; exact hL83
      show Ev K mL_law 12 736 [(0, .float 1), (1, .ref 1), (2, .ref 66), (3, .ref 103), (4, .int x4)] [.int r86, .int r83] G86 _
      refine E_icmp_eq (tgt := 1095) dL_law_736 (by decide) (fun c => ?_) (fun c => ?_)
      · have hB := hB.1 c
        exact hB
      · have hB := hB.2 c
        refine E_iconst (v := 0) dL_law_739 (by decide) ?_
        exact E_zret rfl (Or.inl rfl) dL_law_740 ⟨_, rfl, hB⟩
    obtain ⟨hA, hB⟩ := hB
    by_cases c15 : ((kx K (Int32.toNatClampNeg x4)) &&& 31) = 15
    · have hB := hA c15
      refine E_tableIn (off := 701) (tgt := 741) dL_law_40 (by rw [c15]; decide) (by rw [c15]; decide) (by rw [c15]; decide) (by decide) ?_
      refine E_aload_n 1 dL_law_741 rfl rfl rfl ?_
      refine E_aload_n 0 dL_law_742 rfl rfl rfl ?_
      refine E_iload 4 dL_law_743 rfl ?_
      refine E_iconst (v := 1) dL_law_745 (by decide) ?_
      refine E_iadd dL_law_746 ?_
      obtain ⟨qq87, hB⟩ := hB
      refine E_ldScr qq87 dL_law_747 ?_
      refine E_aload_n 0 dL_law_748 rfl rfl rfl ?_
      refine E_iload 4 dL_law_749 rfl ?_
      refine E_iconst (v := 2) dL_law_751 (by decide) ?_
      refine E_iadd dL_law_752 ?_
      obtain ⟨qq88, hB⟩ := hB
      refine E_ldScr qq88 dL_law_753 ?_
      refine E_cV (ci := 10) (as := [.int (kx K (Int32.toNatClampNeg (x4 + 1))), .int (kx K (Int32.toNatClampNeg (x4 + 2)))]) (st := []) cm_X11_said cV_L_91 ⟨_, _, rfl⟩ (by decide) (lo_1 hL) rfl rfl (by decide) (Nat.le_of_ble_eq_true rfl) (Nat.le_of_ble_eq_true rfl) dL_law_754 hB (fun r G89 hr => ?_)
      obtain ⟨r89, rfl, hL89, hB⟩ := hr
      show Ev K mL_law 12 757 [(0, .float 1), (1, .ref 1), (2, .ref 66), (3, .ref 103), (4, .int x4)] [.int r89] G89 _
      refine E_aload_n 2 dL_law_757 rfl rfl rfl ?_
      refine E_aload_n 0 dL_law_758 rfl rfl rfl ?_
      refine E_iload 4 dL_law_759 rfl ?_
      refine E_iconst (v := 1) dL_law_761 (by decide) ?_
      refine E_iadd dL_law_762 ?_
      obtain ⟨qq90, hB⟩ := hB
      refine E_ldScr qq90 dL_law_763 ?_
      refine E_aload_n 0 dL_law_764 rfl rfl rfl ?_
      refine E_iload 4 dL_law_765 rfl ?_
      refine E_iconst (v := 2) dL_law_767 (by decide) ?_
      refine E_iadd dL_law_768 ?_
      obtain ⟨qq91, hB⟩ := hB
      refine E_ldScr qq91 dL_law_769 ?_
      refine E_cV (ci := 11) (as := [.int (kx K (Int32.toNatClampNeg (x4 + 1))), .int (kx K (Int32.toNatClampNeg (x4 + 2)))]) (st := [.int r89]) cm_X12_said cV_L_94 ⟨_, _, rfl⟩ (by decide) (lo_66 hL89) rfl rfl (by decide) (Nat.le_of_ble_eq_true rfl) (Nat.le_of_ble_eq_true rfl) dL_law_770 hB (fun r G92 hr => ?_)
      obtain ⟨r92, rfl, hE92, hB⟩ := hr
      have hL92 : Lay G92.2.2 := by rw [hE92]; exact hL89
      show Ev K mL_law 12 773 [(0, .float 1), (1, .ref 1), (2, .ref 66), (3, .ref 103), (4, .int x4)] [.int r92, .int r89] G92 _
      refine E_icmp_eq (tgt := 1095) dL_law_773 (by decide) (fun c => ?_) (fun c => ?_)
      · have hB := hB.1 c
        exact hB
      · have hB := hB.2 c
        refine E_iconst (v := 0) dL_law_776 (by decide) ?_
        exact E_zret rfl (Or.inl rfl) dL_law_777 ⟨_, rfl, hB⟩
    obtain ⟨hA, hB⟩ := hB
    by_cases c16 : ((kx K (Int32.toNatClampNeg x4)) &&& 31) = 16
    · have hB := hA c16
      refine E_tableIn (off := 738) (tgt := 778) dL_law_40 (by rw [c16]; decide) (by rw [c16]; decide) (by rw [c16]; decide) (by decide) ?_
      refine E_aload_n 1 dL_law_778 rfl rfl rfl ?_
      refine E_aload_n 0 dL_law_779 rfl rfl rfl ?_
      refine E_iload 4 dL_law_780 rfl ?_
      refine E_iconst (v := 1) dL_law_782 (by decide) ?_
      refine E_iadd dL_law_783 ?_
      obtain ⟨qq93, hB⟩ := hB
      refine E_ldScr qq93 dL_law_784 ?_
      refine E_cV (ci := 10) (as := [.int (kx K (Int32.toNatClampNeg (x4 + 1)))]) (st := []) cm_X11_choose cV_L_95 ⟨_, _, rfl⟩ (by decide) (lo_1 hL) rfl rfl (by decide) (Nat.le_of_ble_eq_true rfl) (Nat.le_of_ble_eq_true rfl) dL_law_785 hB (fun r G94 hr => ?_)
      obtain ⟨r94, rfl, hL94, hB⟩ := hr
      show Ev K mL_law 12 788 [(0, .float 1), (1, .ref 1), (2, .ref 66), (3, .ref 103), (4, .int x4)] [.int r94] G94 _
      refine E_aload_n 2 dL_law_788 rfl rfl rfl ?_
      refine E_aload_n 0 dL_law_789 rfl rfl rfl ?_
      refine E_iload 4 dL_law_790 rfl ?_
      refine E_iconst (v := 1) dL_law_792 (by decide) ?_
      refine E_iadd dL_law_793 ?_
      obtain ⟨qq95, hB⟩ := hB
      refine E_ldScr qq95 dL_law_794 ?_
      refine E_cV (ci := 11) (as := [.int (kx K (Int32.toNatClampNeg (x4 + 1)))]) (st := [.int r94]) cm_X12_choose cV_L_98 ⟨_, _, rfl⟩ (by decide) (lo_66 hL94) rfl rfl (by decide) (Nat.le_of_ble_eq_true rfl) (Nat.le_of_ble_eq_true rfl) dL_law_795 hB (fun r G96 hr => ?_)
      obtain ⟨r96, rfl, hE96, hB⟩ := hr
      have hL96 : Lay G96.2.2 := by rw [hE96]; exact hL94
      show Ev K mL_law 12 798 [(0, .float 1), (1, .ref 1), (2, .ref 66), (3, .ref 103), (4, .int x4)] [.int r96, .int r94] G96 _
      refine E_icmp_eq (tgt := 1095) dL_law_798 (by decide) (fun c => ?_) (fun c => ?_)
      · have hB := hB.1 c
        exact hB
      · have hB := hB.2 c
        refine E_iconst (v := 0) dL_law_801 (by decide) ?_
        exact E_zret rfl (Or.inl rfl) dL_law_802 ⟨_, rfl, hB⟩
    obtain ⟨hA, hB⟩ := hB
    by_cases c17 : ((kx K (Int32.toNatClampNeg x4)) &&& 31) = 17
    · have hB := hA c17
      refine E_tableIn (off := 763) (tgt := 803) dL_law_40 (by rw [c17]; decide) (by rw [c17]; decide) (by rw [c17]; decide) (by decide) ?_
      refine E_aload_n 1 dL_law_803 rfl rfl rfl ?_
      refine E_aload_n 0 dL_law_804 rfl rfl rfl ?_
      refine E_iload 4 dL_law_805 rfl ?_
      refine E_iconst (v := 1) dL_law_807 (by decide) ?_
      refine E_iadd dL_law_808 ?_
      obtain ⟨qq97, hB⟩ := hB
      refine E_ldScr qq97 dL_law_809 ?_
      refine E_cV (ci := 10) (as := [.int (kx K (Int32.toNatClampNeg (x4 + 1)))]) (st := []) cm_X11_parts cV_L_99 ⟨_, _, rfl⟩ (by decide) (lo_1 hL) rfl rfl (by decide) (Nat.le_of_ble_eq_true rfl) (Nat.le_of_ble_eq_true rfl) dL_law_810 hB (fun r G98 hr => ?_)
      obtain ⟨r98, rfl, hL98, hB⟩ := hr
      show Ev K mL_law 12 813 [(0, .float 1), (1, .ref 1), (2, .ref 66), (3, .ref 103), (4, .int x4)] [.long r98] G98 _
      refine E_aload_n 2 dL_law_813 rfl rfl rfl ?_
      refine E_aload_n 0 dL_law_814 rfl rfl rfl ?_
      refine E_iload 4 dL_law_815 rfl ?_
      refine E_iconst (v := 1) dL_law_817 (by decide) ?_
      refine E_iadd dL_law_818 ?_
      obtain ⟨qq99, hB⟩ := hB
      refine E_ldScr qq99 dL_law_819 ?_
      refine E_cV (ci := 11) (as := [.int (kx K (Int32.toNatClampNeg (x4 + 1)))]) (st := [.long r98]) cm_X12_parts cV_L_103 ⟨_, _, rfl⟩ (by decide) (lo_66 hL98) rfl rfl (by decide) (Nat.le_of_ble_eq_true rfl) (Nat.le_of_ble_eq_true rfl) dL_law_820 hB (fun r G100 hr => ?_)
      obtain ⟨r100, rfl, hE100, hB⟩ := hr
      have hL100 : Lay G100.2.2 := by rw [hE100]; exact hL98
      show Ev K mL_law 12 823 [(0, .float 1), (1, .ref 1), (2, .ref 66), (3, .ref 103), (4, .int x4)] [.long r100, .long r98] G100 _
      refine E_lcmp dL_law_823 ?_
      refine E_if_eq (tgt := 1095) dL_law_824 (by decide) (fun c => ?_) (fun c => ?_)
      · have hB := hB.1 ((lgc_eq r98 r100).mp c)
        exact hB
      · have hB := hB.2 (fun q => c ((lgc_eq r98 r100).mpr q))
        refine E_iconst (v := 0) dL_law_827 (by decide) ?_
        exact E_zret rfl (Or.inl rfl) dL_law_828 ⟨_, rfl, hB⟩
    obtain ⟨hA, hB⟩ := hB
    by_cases c18 : ((kx K (Int32.toNatClampNeg x4)) &&& 31) = 18
    · have hB := hA c18
      refine E_tableIn (off := 789) (tgt := 829) dL_law_40 (by rw [c18]; decide) (by rw [c18]; decide) (by rw [c18]; decide) (by decide) ?_
      refine E_aload_n 1 dL_law_829 rfl rfl rfl ?_
      refine E_cV (ci := 10) (as := []) (st := []) cm_X11_left cV_L_104 ⟨_, _, rfl⟩ (by decide) (lo_1 hL) rfl rfl (by decide) (Nat.le_of_ble_eq_true rfl) (Nat.le_of_ble_eq_true rfl) dL_law_830 hB (fun r G101 hr => ?_)
      obtain ⟨r101, rfl, hL101, hB⟩ := hr
      show Ev K mL_law 12 833 [(0, .float 1), (1, .ref 1), (2, .ref 66), (3, .ref 103), (4, .int x4)] [.int r101] G101 _
      refine E_aload_n 2 dL_law_833 rfl rfl rfl ?_
      refine E_cV (ci := 11) (as := []) (st := [.int r101]) cm_X12_left cV_L_107 ⟨_, _, rfl⟩ (by decide) (lo_66 hL101) rfl rfl (by decide) (Nat.le_of_ble_eq_true rfl) (Nat.le_of_ble_eq_true rfl) dL_law_834 hB (fun r G102 hr => ?_)
      obtain ⟨r102, rfl, hE102, hB⟩ := hr
      have hL102 : Lay G102.2.2 := by rw [hE102]; exact hL101
      show Ev K mL_law 12 837 [(0, .float 1), (1, .ref 1), (2, .ref 66), (3, .ref 103), (4, .int x4)] [.int r102, .int r101] G102 _
      refine E_icmp_eq (tgt := 1095) dL_law_837 (by decide) (fun c => ?_) (fun c => ?_)
      · have hB := hB.1 c
        exact hB
      · have hB := hB.2 c
        refine E_iconst (v := 0) dL_law_840 (by decide) ?_
        exact E_zret rfl (Or.inl rfl) dL_law_841 ⟨_, rfl, hB⟩
    obtain ⟨hA, hB⟩ := hB
    by_cases c19 : ((kx K (Int32.toNatClampNeg x4)) &&& 31) = 19
    · have hB := hA c19
      refine E_tableIn (off := 802) (tgt := 842) dL_law_40 (by rw [c19]; decide) (by rw [c19]; decide) (by rw [c19]; decide) (by decide) ?_
      refine E_aload_n 1 dL_law_842 rfl rfl rfl ?_
      refine E_aload_n 0 dL_law_843 rfl rfl rfl ?_
      refine E_iload 4 dL_law_844 rfl ?_
      refine E_iconst (v := 1) dL_law_846 (by decide) ?_
      refine E_iadd dL_law_847 ?_
      obtain ⟨qq103, hB⟩ := hB
      refine E_ldScr qq103 dL_law_848 ?_
      refine E_aload_n 0 dL_law_849 rfl rfl rfl ?_
      refine E_iload 4 dL_law_850 rfl ?_
      refine E_iconst (v := 2) dL_law_852 (by decide) ?_
      refine E_iadd dL_law_853 ?_
      obtain ⟨qq104, hB⟩ := hB
      refine E_ldScr qq104 dL_law_854 ?_
      refine E_cV (ci := 10) (as := [.int (kx K (Int32.toNatClampNeg (x4 + 1))), .int (kx K (Int32.toNatClampNeg (x4 + 2)))]) (st := []) cm_X11_near cV_L_108 ⟨_, _, rfl⟩ (by decide) (lo_1 hL) rfl rfl (by decide) (Nat.le_of_ble_eq_true rfl) (Nat.le_of_ble_eq_true rfl) dL_law_855 hB (fun r G105 hr => ?_)
      obtain ⟨r105, rfl, hE105, hB⟩ := hr
      have hL105 : Lay G105.2.2 := by rw [hE105]; exact hL
      show Ev K mL_law 12 858 [(0, .float 1), (1, .ref 1), (2, .ref 66), (3, .ref 103), (4, .int x4)] [.long r105] G105 _
      refine E_aload_n 2 dL_law_858 rfl rfl rfl ?_
      refine E_aload_n 0 dL_law_859 rfl rfl rfl ?_
      refine E_iload 4 dL_law_860 rfl ?_
      refine E_iconst (v := 1) dL_law_862 (by decide) ?_
      refine E_iadd dL_law_863 ?_
      obtain ⟨qq106, hB⟩ := hB
      refine E_ldScr qq106 dL_law_864 ?_
      refine E_aload_n 0 dL_law_865 rfl rfl rfl ?_
      refine E_iload 4 dL_law_866 rfl ?_
      refine E_iconst (v := 2) dL_law_868 (by decide) ?_
      refine E_iadd dL_law_869 ?_
      obtain ⟨qq107, hB⟩ := hB
      refine E_ldScr qq107 dL_law_870 ?_
      refine E_cV (ci := 11) (as := [.int (kx K (Int32.toNatClampNeg (x4 + 1))), .int (kx K (Int32.toNatClampNeg (x4 + 2)))]) (st := [.long r105]) cm_X12_near cV_L_111 ⟨_, _, rfl⟩ (by decide) (lo_66 hL105) rfl rfl (by decide) (Nat.le_of_ble_eq_true rfl) (Nat.le_of_ble_eq_true rfl) dL_law_871 hB (fun r G108 hr => ?_)
      obtain ⟨r108, rfl, hE108, hB⟩ := hr
      have hL108 : Lay G108.2.2 := by rw [hE108]; exact hL105
      show Ev K mL_law 12 874 [(0, .float 1), (1, .ref 1), (2, .ref 66), (3, .ref 103), (4, .int x4)] [.long r108, .long r105] G108 _
      refine E_lcmp dL_law_874 ?_
      refine E_if_eq (tgt := 1095) dL_law_875 (by decide) (fun c => ?_) (fun c => ?_)
      · have hB := hB.1 ((lgc_eq r105 r108).mp c)
        exact hB
      · have hB := hB.2 (fun q => c ((lgc_eq r105 r108).mpr q))
        refine E_iconst (v := 0) dL_law_878 (by decide) ?_
        exact E_zret rfl (Or.inl rfl) dL_law_879 ⟨_, rfl, hB⟩
    obtain ⟨hA, hB⟩ := hB
    by_cases c20 : ((kx K (Int32.toNatClampNeg x4)) &&& 31) = 20
    · have hB := hA c20
      refine E_tableIn (off := 840) (tgt := 880) dL_law_40 (by rw [c20]; decide) (by rw [c20]; decide) (by rw [c20]; decide) (by decide) ?_
      refine E_aload_n 1 dL_law_880 rfl rfl rfl ?_
      refine E_aload_n 0 dL_law_881 rfl rfl rfl ?_
      refine E_iload 4 dL_law_882 rfl ?_
      refine E_iconst (v := 1) dL_law_884 (by decide) ?_
      refine E_iadd dL_law_885 ?_
      obtain ⟨qq109, hB⟩ := hB
      refine E_ldScr qq109 dL_law_886 ?_
      refine E_cV (ci := 10) (as := [.int (kx K (Int32.toNatClampNeg (x4 + 1)))]) (st := []) cm_X11_meant cV_L_112 ⟨_, _, rfl⟩ (by decide) (lo_1 hL) rfl rfl (by decide) (Nat.le_of_ble_eq_true rfl) (Nat.le_of_ble_eq_true rfl) dL_law_887 hB (fun r G110 hr => ?_)
      obtain ⟨r110, rfl, hL110, hB⟩ := hr
      show Ev K mL_law 12 890 [(0, .float 1), (1, .ref 1), (2, .ref 66), (3, .ref 103), (4, .int x4)] [.int r110] G110 _
      refine E_aload_n 2 dL_law_890 rfl rfl rfl ?_
      refine E_aload_n 0 dL_law_891 rfl rfl rfl ?_
      refine E_iload 4 dL_law_892 rfl ?_
      refine E_iconst (v := 1) dL_law_894 (by decide) ?_
      refine E_iadd dL_law_895 ?_
      obtain ⟨qq111, hB⟩ := hB
      refine E_ldScr qq111 dL_law_896 ?_
      refine E_cV (ci := 11) (as := [.int (kx K (Int32.toNatClampNeg (x4 + 1)))]) (st := [.int r110]) cm_X12_meant cV_L_115 ⟨_, _, rfl⟩ (by decide) (lo_66 hL110) rfl rfl (by decide) (Nat.le_of_ble_eq_true rfl) (Nat.le_of_ble_eq_true rfl) dL_law_897 hB (fun r G112 hr => ?_)
      obtain ⟨r112, rfl, hE112, hB⟩ := hr
      have hL112 : Lay G112.2.2 := by rw [hE112]; exact hL110
      show Ev K mL_law 12 900 [(0, .float 1), (1, .ref 1), (2, .ref 66), (3, .ref 103), (4, .int x4)] [.int r112, .int r110] G112 _
      refine E_icmp_eq (tgt := 1095) dL_law_900 (by decide) (fun c => ?_) (fun c => ?_)
      · have hB := hB.1 c
        exact hB
      · have hB := hB.2 c
        refine E_iconst (v := 0) dL_law_903 (by decide) ?_
        exact E_zret rfl (Or.inl rfl) dL_law_904 ⟨_, rfl, hB⟩
    obtain ⟨hA, hB⟩ := hB
    by_cases c21 : ((kx K (Int32.toNatClampNeg x4)) &&& 31) = 21
    · have hB := hA c21
      refine E_tableIn (off := 865) (tgt := 905) dL_law_40 (by rw [c21]; decide) (by rw [c21]; decide) (by rw [c21]; decide) (by decide) ?_
      refine E_aload_n 1 dL_law_905 rfl rfl rfl ?_
      refine E_aload_n 0 dL_law_906 rfl rfl rfl ?_
      refine E_iload 4 dL_law_907 rfl ?_
      refine E_iconst (v := 1) dL_law_909 (by decide) ?_
      refine E_iadd dL_law_910 ?_
      obtain ⟨qq113, hB⟩ := hB
      refine E_ldScr qq113 dL_law_911 ?_
      refine E_cV (ci := 10) (as := [.int (kx K (Int32.toNatClampNeg (x4 + 1)))]) (st := []) cm_X11_judged cV_L_116 ⟨_, _, rfl⟩ (by decide) (lo_1 hL) rfl rfl (by decide) (Nat.le_of_ble_eq_true rfl) (Nat.le_of_ble_eq_true rfl) dL_law_912 hB (fun r G114 hr => ?_)
      obtain ⟨r114, rfl, hE114, hB⟩ := hr
      have hL114 : Lay G114.2.2 := by rw [hE114]; exact hL
      show Ev K mL_law 12 915 [(0, .float 1), (1, .ref 1), (2, .ref 66), (3, .ref 103), (4, .int x4)] [.int r114] G114 _
      refine E_aload_n 2 dL_law_915 rfl rfl rfl ?_
      refine E_aload_n 0 dL_law_916 rfl rfl rfl ?_
      refine E_iload 4 dL_law_917 rfl ?_
      refine E_iconst (v := 1) dL_law_919 (by decide) ?_
      refine E_iadd dL_law_920 ?_
      obtain ⟨qq115, hB⟩ := hB
      refine E_ldScr qq115 dL_law_921 ?_
      refine E_cV (ci := 11) (as := [.int (kx K (Int32.toNatClampNeg (x4 + 1)))]) (st := [.int r114]) cm_X12_judged cV_L_119 ⟨_, _, rfl⟩ (by decide) (lo_66 hL114) rfl rfl (by decide) (Nat.le_of_ble_eq_true rfl) (Nat.le_of_ble_eq_true rfl) dL_law_922 hB (fun r G116 hr => ?_)
      obtain ⟨r116, rfl, hE116, hB⟩ := hr
      have hL116 : Lay G116.2.2 := by rw [hE116]; exact hL114
      show Ev K mL_law 12 925 [(0, .float 1), (1, .ref 1), (2, .ref 66), (3, .ref 103), (4, .int x4)] [.int r116, .int r114] G116 _
      refine E_icmp_eq (tgt := 1095) dL_law_925 (by decide) (fun c => ?_) (fun c => ?_)
      · have hB := hB.1 c
        exact hB
      · have hB := hB.2 c
        refine E_iconst (v := 0) dL_law_928 (by decide) ?_
        exact E_zret rfl (Or.inl rfl) dL_law_929 ⟨_, rfl, hB⟩
    obtain ⟨hA, hB⟩ := hB
    by_cases c22 : ((kx K (Int32.toNatClampNeg x4)) &&& 31) = 22
    · have hB := hA c22
      refine E_tableIn (off := 890) (tgt := 930) dL_law_40 (by rw [c22]; decide) (by rw [c22]; decide) (by rw [c22]; decide) (by decide) ?_
      refine E_aload_n 1 dL_law_930 rfl rfl rfl ?_
      refine E_aload_n 0 dL_law_931 rfl rfl rfl ?_
      refine E_iload 4 dL_law_932 rfl ?_
      refine E_iconst (v := 1) dL_law_934 (by decide) ?_
      refine E_iadd dL_law_935 ?_
      obtain ⟨qq117, hB⟩ := hB
      refine E_ldScr qq117 dL_law_936 ?_
      refine E_cV (ci := 10) (as := [.int (kx K (Int32.toNatClampNeg (x4 + 1)))]) (st := []) cm_X11_person cV_L_120 ⟨_, _, rfl⟩ (by decide) (lo_1 hL) rfl rfl (by decide) (Nat.le_of_ble_eq_true rfl) (Nat.le_of_ble_eq_true rfl) dL_law_937 hB (fun r G118 hr => ?_)
      obtain ⟨r118, rfl, hE118, hB⟩ := hr
      have hL118 : Lay G118.2.2 := by rw [hE118]; exact hL
      show Ev K mL_law 12 940 [(0, .float 1), (1, .ref 1), (2, .ref 66), (3, .ref 103), (4, .int x4)] [.int r118] G118 _
      refine E_aload_n 2 dL_law_940 rfl rfl rfl ?_
      refine E_aload_n 0 dL_law_941 rfl rfl rfl ?_
      refine E_iload 4 dL_law_942 rfl ?_
      refine E_iconst (v := 1) dL_law_944 (by decide) ?_
      refine E_iadd dL_law_945 ?_
      obtain ⟨qq119, hB⟩ := hB
      refine E_ldScr qq119 dL_law_946 ?_
      refine E_cV (ci := 11) (as := [.int (kx K (Int32.toNatClampNeg (x4 + 1)))]) (st := [.int r118]) cm_X12_person cV_L_123 ⟨_, _, rfl⟩ (by decide) (lo_66 hL118) rfl rfl (by decide) (Nat.le_of_ble_eq_true rfl) (Nat.le_of_ble_eq_true rfl) dL_law_947 hB (fun r G120 hr => ?_)
      obtain ⟨r120, rfl, hE120, hB⟩ := hr
      have hL120 : Lay G120.2.2 := by rw [hE120]; exact hL118
      show Ev K mL_law 12 950 [(0, .float 1), (1, .ref 1), (2, .ref 66), (3, .ref 103), (4, .int x4)] [.int r120, .int r118] G120 _
      refine E_icmp_eq (tgt := 1095) dL_law_950 (by decide) (fun c => ?_) (fun c => ?_)
      · have hB := hB.1 c
        exact hB
      · have hB := hB.2 c
        refine E_iconst (v := 0) dL_law_953 (by decide) ?_
        exact E_zret rfl (Or.inl rfl) dL_law_954 ⟨_, rfl, hB⟩
    obtain ⟨hA, hB⟩ := hB
    by_cases c23 : ((kx K (Int32.toNatClampNeg x4)) &&& 31) = 23
    · have hB := hA c23
      refine E_tableIn (off := 915) (tgt := 955) dL_law_40 (by rw [c23]; decide) (by rw [c23]; decide) (by rw [c23]; decide) (by decide) ?_
      refine E_aload_n 1 dL_law_955 rfl rfl rfl ?_
      refine E_aload_n 0 dL_law_956 rfl rfl rfl ?_
      refine E_iload 4 dL_law_957 rfl ?_
      refine E_iconst (v := 1) dL_law_959 (by decide) ?_
      refine E_iadd dL_law_960 ?_
      obtain ⟨qq121, hB⟩ := hB
      refine E_ldScr qq121 dL_law_961 ?_
      refine E_aload_n 0 dL_law_962 rfl rfl rfl ?_
      refine E_iload 4 dL_law_963 rfl ?_
      refine E_iconst (v := 2) dL_law_965 (by decide) ?_
      refine E_iadd dL_law_966 ?_
      obtain ⟨qq122, hB⟩ := hB
      refine E_ldScr qq122 dL_law_967 ?_
      refine E_aload_n 0 dL_law_968 rfl rfl rfl ?_
      refine E_iload 4 dL_law_969 rfl ?_
      refine E_iconst (v := 3) dL_law_971 (by decide) ?_
      refine E_iadd dL_law_972 ?_
      obtain ⟨qq123, hB⟩ := hB
      refine E_ldScr qq123 dL_law_973 ?_
      refine E_if_eq (tgt := 981) dL_law_974 (by decide) (fun c => ?_) (fun c => ?_)
      · have hB := hB.1 c
        refine E_iconst (v := 0) dL_law_981 (by decide) ?_
        exact hB
      · have hB := hB.2 c
        refine E_iconst (v := 1) dL_law_977 (by decide) ?_
        refine E_goto (tgt := 982) dL_law_978 (by decide) ?_
        exact hB
    obtain ⟨hA, hB⟩ := hB
    by_cases c24 : ((kx K (Int32.toNatClampNeg x4)) &&& 31) = 24
    · have hB := hA c24
      refine E_tableIn (off := 980) (tgt := 1020) dL_law_40 (by rw [c24]; decide) (by rw [c24]; decide) (by rw [c24]; decide) (by decide) ?_
      refine E_aload_n 1 dL_law_1020 rfl rfl rfl ?_
      refine E_aload_n 0 dL_law_1021 rfl rfl rfl ?_
      refine E_iload 4 dL_law_1022 rfl ?_
      refine E_iconst (v := 1) dL_law_1024 (by decide) ?_
      refine E_iadd dL_law_1025 ?_
      obtain ⟨qq124, hB⟩ := hB
      refine E_ldScr qq124 dL_law_1026 ?_
      refine E_cV (ci := 10) (as := [.int (kx K (Int32.toNatClampNeg (x4 + 1)))]) (st := []) cm_X11_offered cV_L_129 ⟨_, _, rfl⟩ (by decide) (lo_1 hL) rfl rfl (by decide) (Nat.le_of_ble_eq_true rfl) (Nat.le_of_ble_eq_true rfl) dL_law_1027 hB (fun r G125 hr => ?_)
      obtain ⟨r125, rfl, hE125, hB⟩ := hr
      have hL125 : Lay G125.2.2 := by rw [hE125]; exact hL
      show Ev K mL_law 12 1030 [(0, .float 1), (1, .ref 1), (2, .ref 66), (3, .ref 103), (4, .int x4)] [.int r125] G125 _
      refine E_aload_n 2 dL_law_1030 rfl rfl rfl ?_
      refine E_aload_n 0 dL_law_1031 rfl rfl rfl ?_
      refine E_iload 4 dL_law_1032 rfl ?_
      refine E_iconst (v := 1) dL_law_1034 (by decide) ?_
      refine E_iadd dL_law_1035 ?_
      obtain ⟨qq126, hB⟩ := hB
      refine E_ldScr qq126 dL_law_1036 ?_
      refine E_cV (ci := 11) (as := [.int (kx K (Int32.toNatClampNeg (x4 + 1)))]) (st := [.int r125]) cm_X12_offered cV_L_132 ⟨_, _, rfl⟩ (by decide) (lo_66 hL125) rfl rfl (by decide) (Nat.le_of_ble_eq_true rfl) (Nat.le_of_ble_eq_true rfl) dL_law_1037 hB (fun r G127 hr => ?_)
      obtain ⟨r127, rfl, hE127, hB⟩ := hr
      have hL127 : Lay G127.2.2 := by rw [hE127]; exact hL125
      show Ev K mL_law 12 1040 [(0, .float 1), (1, .ref 1), (2, .ref 66), (3, .ref 103), (4, .int x4)] [.int r127, .int r125] G127 _
      refine E_icmp_eq (tgt := 1095) dL_law_1040 (by decide) (fun c => ?_) (fun c => ?_)
      · have hB := hB.1 c
        exact hB
      · have hB := hB.2 c
        refine E_iconst (v := 0) dL_law_1043 (by decide) ?_
        exact E_zret rfl (Or.inl rfl) dL_law_1044 ⟨_, rfl, hB⟩
    obtain ⟨hA, hB⟩ := hB
    by_cases c25 : ((kx K (Int32.toNatClampNeg x4)) &&& 31) = 25
    · have hB := hA c25
      refine E_tableIn (off := 1005) (tgt := 1045) dL_law_40 (by rw [c25]; decide) (by rw [c25]; decide) (by rw [c25]; decide) (by decide) ?_
      refine E_aload_n 1 dL_law_1045 rfl rfl rfl ?_
      refine E_aload_n 0 dL_law_1046 rfl rfl rfl ?_
      refine E_iload 4 dL_law_1047 rfl ?_
      refine E_iconst (v := 1) dL_law_1049 (by decide) ?_
      refine E_iadd dL_law_1050 ?_
      obtain ⟨qq128, hB⟩ := hB
      refine E_ldScr qq128 dL_law_1051 ?_
      refine E_cV (ci := 10) (as := [.int (kx K (Int32.toNatClampNeg (x4 + 1)))]) (st := []) cm_X11_lets cV_L_133 ⟨_, _, rfl⟩ (by decide) (lo_1 hL) rfl rfl (by decide) (Nat.le_of_ble_eq_true rfl) (Nat.le_of_ble_eq_true rfl) dL_law_1052 hB (fun r G129 hr => ?_)
      obtain ⟨r129, rfl, hE129, hB⟩ := hr
      have hL129 : Lay G129.2.2 := by rw [hE129]; exact hL
      show Ev K mL_law 12 1055 [(0, .float 1), (1, .ref 1), (2, .ref 66), (3, .ref 103), (4, .int x4)] [.int r129] G129 _
      refine E_aload_n 2 dL_law_1055 rfl rfl rfl ?_
      refine E_aload_n 0 dL_law_1056 rfl rfl rfl ?_
      refine E_iload 4 dL_law_1057 rfl ?_
      refine E_iconst (v := 1) dL_law_1059 (by decide) ?_
      refine E_iadd dL_law_1060 ?_
      obtain ⟨qq130, hB⟩ := hB
      refine E_ldScr qq130 dL_law_1061 ?_
      refine E_cV (ci := 11) (as := [.int (kx K (Int32.toNatClampNeg (x4 + 1)))]) (st := [.int r129]) cm_X12_lets cV_L_136 ⟨_, _, rfl⟩ (by decide) (lo_66 hL129) rfl rfl (by decide) (Nat.le_of_ble_eq_true rfl) (Nat.le_of_ble_eq_true rfl) dL_law_1062 hB (fun r G131 hr => ?_)
      obtain ⟨r131, rfl, hE131, hB⟩ := hr
      have hL131 : Lay G131.2.2 := by rw [hE131]; exact hL129
      show Ev K mL_law 12 1065 [(0, .float 1), (1, .ref 1), (2, .ref 66), (3, .ref 103), (4, .int x4)] [.int r131, .int r129] G131 _
      refine E_icmp_eq (tgt := 1095) dL_law_1065 (by decide) (fun c => ?_) (fun c => ?_)
      · have hB := hB.1 c
        exact hB
      · have hB := hB.2 c
        refine E_iconst (v := 0) dL_law_1068 (by decide) ?_
        exact E_zret rfl (Or.inl rfl) dL_law_1069 ⟨_, rfl, hB⟩
    obtain ⟨hA, hB⟩ := hB
    by_cases c26 : ((kx K (Int32.toNatClampNeg x4)) &&& 31) = 26
    · have hB := hA c26
      refine E_tableIn (off := 1030) (tgt := 1070) dL_law_40 (by rw [c26]; decide) (by rw [c26]; decide) (by rw [c26]; decide) (by decide) ?_
      refine E_aload_n 1 dL_law_1070 rfl rfl rfl ?_
      refine E_aload_n 0 dL_law_1071 rfl rfl rfl ?_
      refine E_iload 4 dL_law_1072 rfl ?_
      refine E_iconst (v := 1) dL_law_1074 (by decide) ?_
      refine E_iadd dL_law_1075 ?_
      obtain ⟨qq132, hB⟩ := hB
      refine E_ldScr qq132 dL_law_1076 ?_
      refine E_cV (ci := 10) (as := [.int (kx K (Int32.toNatClampNeg (x4 + 1)))]) (st := []) cm_X11_count cV_L_137 ⟨_, _, rfl⟩ (by decide) (lo_1 hL) rfl rfl (by decide) (Nat.le_of_ble_eq_true rfl) (Nat.le_of_ble_eq_true rfl) dL_law_1077 hB (fun r G133 hr => ?_)
      obtain ⟨r133, rfl, hL133, hB⟩ := hr
      show Ev K mL_law 12 1080 [(0, .float 1), (1, .ref 1), (2, .ref 66), (3, .ref 103), (4, .int x4)] [.int r133] G133 _
      refine E_aload_n 2 dL_law_1080 rfl rfl rfl ?_
      refine E_aload_n 0 dL_law_1081 rfl rfl rfl ?_
      refine E_iload 4 dL_law_1082 rfl ?_
      refine E_iconst (v := 1) dL_law_1084 (by decide) ?_
      refine E_iadd dL_law_1085 ?_
      obtain ⟨qq134, hB⟩ := hB
      refine E_ldScr qq134 dL_law_1086 ?_
      refine E_cV (ci := 11) (as := [.int (kx K (Int32.toNatClampNeg (x4 + 1)))]) (st := [.int r133]) cm_X12_count cV_L_140 ⟨_, _, rfl⟩ (by decide) (lo_66 hL133) rfl rfl (by decide) (Nat.le_of_ble_eq_true rfl) (Nat.le_of_ble_eq_true rfl) dL_law_1087 hB (fun r G135 hr => ?_)
      obtain ⟨r135, rfl, hE135, hB⟩ := hr
      have hL135 : Lay G135.2.2 := by rw [hE135]; exact hL133
      show Ev K mL_law 12 1090 [(0, .float 1), (1, .ref 1), (2, .ref 66), (3, .ref 103), (4, .int x4)] [.int r135, .int r133] G135 _
      refine E_icmp_eq (tgt := 1095) dL_law_1090 (by decide) (fun c => ?_) (fun c => ?_)
      · have hB := hB.1 c
        exact hB
      · have hB := hB.2 c
        refine E_iconst (v := 0) dL_law_1093 (by decide) ?_
        exact E_zret rfl (Or.inl rfl) dL_law_1094 ⟨_, rfl, hB⟩
    have hB := hB c0 c1 c2 c3 c4 c5 c6 c7 c8 c9 c10 c11 c12 c13 c14 c15 c16 c17 c18 c19 c20 c21 c22 c23 c24 c25 c26
    refine E_tableOut (tgt := 1095) dL_law_40 (tb_outZ (by decide) (by decide) (fun z z1 z2 => ?_)) (by decide) ?_
    · have z3 : z = 0 ∨ z = 1 ∨ z = 2 ∨ z = 3 ∨ z = 4 ∨ z = 5 ∨ z = 6 ∨ z = 7 ∨ z = 8 ∨ z = 9 ∨ z = 10 ∨ z = 11 ∨ z = 12 ∨ z = 13 ∨ z = 14 ∨ z = 15 ∨ z = 16 ∨ z = 17 ∨ z = 18 ∨ z = 19 ∨ z = 20 ∨ z = 21 ∨ z = 22 ∨ z = 23 ∨ z = 24 ∨ z = 25 ∨ z = 26 := by omega
      rcases z3 with rfl | rfl | rfl | rfl | rfl | rfl | rfl | rfl | rfl | rfl | rfl | rfl | rfl | rfl | rfl | rfl | rfl | rfl | rfl | rfl | rfl | rfl | rfl | rfl | rfl | rfl | rfl
      · exact fun q => c0 (q.trans (by decide))
      · exact fun q => c1 (q.trans (by decide))
      · exact fun q => c2 (q.trans (by decide))
      · exact fun q => c3 (q.trans (by decide))
      · exact fun q => c4 (q.trans (by decide))
      · exact fun q => c5 (q.trans (by decide))
      · exact fun q => c6 (q.trans (by decide))
      · exact fun q => c7 (q.trans (by decide))
      · exact fun q => c8 (q.trans (by decide))
      · exact fun q => c9 (q.trans (by decide))
      · exact fun q => c10 (q.trans (by decide))
      · exact fun q => c11 (q.trans (by decide))
      · exact fun q => c12 (q.trans (by decide))
      · exact fun q => c13 (q.trans (by decide))
      · exact fun q => c14 (q.trans (by decide))
      · exact fun q => c15 (q.trans (by decide))
      · exact fun q => c16 (q.trans (by decide))
      · exact fun q => c17 (q.trans (by decide))
      · exact fun q => c18 (q.trans (by decide))
      · exact fun q => c19 (q.trans (by decide))
      · exact fun q => c20 (q.trans (by decide))
      · exact fun q => c21 (q.trans (by decide))
      · exact fun q => c22 (q.trans (by decide))
      · exact fun q => c23 (q.trans (by decide))
      · exact fun q => c24 (q.trans (by decide))
      · exact fun q => c25 (q.trans (by decide))
      · exact fun q => c26 (q.trans (by decide))
    exact hB

set_option maxRecDepth 20000 in
set_option maxHeartbeats 4000000 in
theorem kL_law_453 {K : KT} {G : St} {Q : Int32 → St → Prop} {x4 : Int32} (hL : Lay G.2.2) 
    (hB : EvIa K mL_law 12 1095 [(0, .float 1), (1, .ref 1), (2, .ref 66), (3, .ref 103), (4, .int x4)] [] G Q) :
    EvIa K mL_law 12 453 [(0, .float 1), (1, .ref 1), (2, .ref 66), (3, .ref 103), (4, .int x4)] [] G Q := by
  refine E_goto (tgt := 1095) dL_law_453 (by decide) ?_
  exact hB

set_option maxRecDepth 20000 in
set_option maxHeartbeats 4000000 in
theorem kL_law_982 {K : KT} {G : St} {Q : Int32 → St → Prop} {x4 : Int32} {xs1 : Int32} {xs2 : Int32} {xs3 : Int32} (hL : Lay G.2.2) 
    (hB : EvI K mX11_hide 3 0 [(0, .ref 1), (1, .int xs1), (2, .int xs2), (3, .int xs3)] [] G (fun r1 G1 => vp_in (x4 + 1) (kl K) ∧ vp_in (x4 + 2) (kl K) ∧ vp_in (x4 + 3) (kl K) ∧ (((kx K (Int32.toNatClampNeg (x4 + 3))) = 0 → EvIa K mL_law 12 1012 [(0, .float 1), (1, .ref 1), (2, .ref 66), (3, .ref 103), (4, .int x4)] [.int 0, .int (kx K (Int32.toNatClampNeg (x4 + 2))), .int (kx K (Int32.toNatClampNeg (x4 + 1))), .ref 66, .int r1] G1 Q) ∧ (¬ (kx K (Int32.toNatClampNeg (x4 + 3))) = 0 → EvIa K mL_law 12 1012 [(0, .float 1), (1, .ref 1), (2, .ref 66), (3, .ref 103), (4, .int x4)] [.int 1, .int (kx K (Int32.toNatClampNeg (x4 + 2))), .int (kx K (Int32.toNatClampNeg (x4 + 1))), .ref 66, .int r1] G1 Q)))) :
    EvIa K mL_law 12 982 [(0, .float 1), (1, .ref 1), (2, .ref 66), (3, .ref 103), (4, .int x4)] [.int xs3, .int xs2, .int xs1, .ref 1] G Q := by
  refine E_cV (ci := 10) (as := [.int xs1, .int xs2, .int xs3]) (st := []) cm_X11_hide cV_L_124 ⟨_, _, rfl⟩ (by decide) (lo_1 hL) rfl rfl (by decide) (Nat.le_of_ble_eq_true rfl) (Nat.le_of_ble_eq_true rfl) dL_law_982 hB (fun r G1 hr => ?_)
  obtain ⟨r1, rfl, hE1, hB⟩ := hr
  have hL1 : Lay G1.2.2 := by rw [hE1]; exact hL
  show Ev K mL_law 12 985 [(0, .float 1), (1, .ref 1), (2, .ref 66), (3, .ref 103), (4, .int x4)] [.int r1] G1 _
  refine E_aload_n 2 dL_law_985 rfl rfl rfl ?_
  refine E_aload_n 0 dL_law_986 rfl rfl rfl ?_
  refine E_iload 4 dL_law_987 rfl ?_
  refine E_iconst (v := 1) dL_law_989 (by decide) ?_
  refine E_iadd dL_law_990 ?_
  obtain ⟨qq2, hB⟩ := hB
  refine E_ldScr qq2 dL_law_991 ?_
  refine E_aload_n 0 dL_law_992 rfl rfl rfl ?_
  refine E_iload 4 dL_law_993 rfl ?_
  refine E_iconst (v := 2) dL_law_995 (by decide) ?_
  refine E_iadd dL_law_996 ?_
  obtain ⟨qq3, hB⟩ := hB
  refine E_ldScr qq3 dL_law_997 ?_
  refine E_aload_n 0 dL_law_998 rfl rfl rfl ?_
  refine E_iload 4 dL_law_999 rfl ?_
  refine E_iconst (v := 3) dL_law_1001 (by decide) ?_
  refine E_iadd dL_law_1002 ?_
  obtain ⟨qq4, hB⟩ := hB
  refine E_ldScr qq4 dL_law_1003 ?_
  refine E_if_eq (tgt := 1011) dL_law_1004 (by decide) (fun c => ?_) (fun c => ?_)
  · have hB := hB.1 c
    refine E_iconst (v := 0) dL_law_1011 (by decide) ?_
    exact hB
  · have hB := hB.2 c
    refine E_iconst (v := 1) dL_law_1007 (by decide) ?_
    refine E_goto (tgt := 1012) dL_law_1008 (by decide) ?_
    exact hB

set_option maxRecDepth 20000 in
set_option maxHeartbeats 4000000 in
theorem kL_law_1012 {K : KT} {G : St} {Q : Int32 → St → Prop} {x4 : Int32} {xs0 : Int32} {xs2 : Int32} {xs3 : Int32} {xs4 : Int32} (hL : Lay G.2.2) 
    (hB : EvI K mX12_hide 1 0 [(0, .ref 66), (1, .int xs2), (2, .int xs3), (3, .int xs4)] [] G (fun r1 G1 => ((xs0 = r1 → EvIa K mL_law 12 1095 [(0, .float 1), (1, .ref 1), (2, .ref 66), (3, .ref 103), (4, .int x4)] [] G1 Q) ∧ (¬ xs0 = r1 → Q 0 G1)))) :
    EvIa K mL_law 12 1012 [(0, .float 1), (1, .ref 1), (2, .ref 66), (3, .ref 103), (4, .int x4)] [.int xs4, .int xs3, .int xs2, .ref 66, .int xs0] G Q := by
  refine E_cV (ci := 11) (as := [.int xs2, .int xs3, .int xs4]) (st := [.int xs0]) cm_X12_hide cV_L_128 ⟨_, _, rfl⟩ (by decide) (lo_66 hL) rfl rfl (by decide) (Nat.le_of_ble_eq_true rfl) (Nat.le_of_ble_eq_true rfl) dL_law_1012 hB (fun r G1 hr => ?_)
  obtain ⟨r1, rfl, hE1, hB⟩ := hr
  have hL1 : Lay G1.2.2 := by rw [hE1]; exact hL
  show Ev K mL_law 12 1015 [(0, .float 1), (1, .ref 1), (2, .ref 66), (3, .ref 103), (4, .int x4)] [.int r1, .int xs0] G1 _
  refine E_icmp_eq (tgt := 1095) dL_law_1015 (by decide) (fun c => ?_) (fun c => ?_)
  · have hB := hB.1 c
    exact hB
  · have hB := hB.2 c
    refine E_iconst (v := 0) dL_law_1018 (by decide) ?_
    exact E_zret rfl (Or.inl rfl) dL_law_1019 ⟨_, rfl, hB⟩

set_option maxRecDepth 20000 in
set_option maxHeartbeats 4000000 in
theorem kL_law_1095 {K : KT} {G : St} {Q : Int32 → St → Prop} {x4 : Int32} (hL : Lay G.2.2) 
    (hB : EvIa K mL_law 12 23 [(0, .float 1), (1, .ref 1), (2, .ref 66), (3, .ref 103), (4, .int (x4 + 7))] [] G Q) :
    EvIa K mL_law 12 1095 [(0, .float 1), (1, .ref 1), (2, .ref 66), (3, .ref 103), (4, .int x4)] [] G Q := by
  refine E_iinc (v := x4 + 7) (lv' := [(0, .float 1), (1, .ref 1), (2, .ref 66), (3, .ref 103), (4, .int (x4 + 7))]) 4 dL_law_1095 rfl rfl (by decide) rfl ?_
  refine E_goto (tgt := 23) dL_law_1098 (by decide) ?_
  exact hB

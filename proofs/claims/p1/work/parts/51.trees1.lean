/-! ===== each call on a fresh object, over boxes ===== -/
set_option maxRecDepth 100000 in
theorem tr_0 : atr (bans (cex xft xPb 200000 100) 199979 21 [.inl (.int 0)]) 1000 [none] (List.replicate 6 aTop) = some [] := by decide +kernel
set_option maxRecDepth 100000 in
theorem tr_1 : atr (bans (cex xft xPb 200000 100) 199979 21 [.inl (.int 1)]) 1000 [some (1, 0), none, some (1, 240), none, none] (List.replicate 6 aTop) = some [] := by decide +kernel
set_option maxRecDepth 100000 in
theorem tr_2 : atr (bans (cex xft xPb 200000 100) 199979 21 [.inl (.int 2)]) 1000 [some (1, 0), none, some (1, 200), none, none] (List.replicate 6 aTop) = some [] := by decide +kernel
set_option maxRecDepth 100000 in
theorem tr_3 : atr (bans (cex xft xPb 200000 100) 199979 21 [.inl (.int 3)]) 1000 [some (1, (-1)), none, some (1, 3), some (1, 1), some (1, 0), none, none, some (1, 2), none, none, some (1, 9), none, some (1, 10), none, none] (List.replicate 6 aTop) = some [] := by decide +kernel
set_option maxRecDepth 100000 in
theorem tr_4 : atr (bans (cex xft xPb 200000 100) 199979 21 [.inl (.int 4)]) 1000 [some (1, (-1)), none, none] (List.replicate 6 aTop) = some [] := by decide +kernel
set_option maxRecDepth 100000 in
theorem tr_5 : atr (bans (cex xft xPb 200000 100) 199979 21 [.inl (.int 5)]) 1000 [some (1, (-1)), none, some (1, 1), some (2, (-1)), none, some (2, 4), some (2, 2), some (1, 0), some (2, 0), none, none, some (2, 0), none, none, some (2, 3), some (1, 0), none, none, some (1, 0), none, none, none, none] (List.replicate 6 aTop) = some [] := by decide +kernel
set_option maxRecDepth 100000 in
theorem tr_6 : atr (bans (cex xft xPb 200000 100) 199979 21 [.inl (.int 6)]) 1000 [some (1, (-1)), none, some (2, (-1)), none, some (2, 1), some (1, 1), some (1, 0), some (2, 0), none, none, some (2, 0), none, none, none, none] (List.replicate 6 aTop) = some [] := by decide +kernel
set_option maxRecDepth 100000 in
theorem tr_7 : atr (bans (cex xft xPb 200000 100) 199979 21 [.inl (.int 7)]) 1000 [some (1, (-1)), none, some (1, 1), some (2, (-1)), none, none, none] (List.replicate 6 aTop) = some [] := by decide +kernel
set_option maxRecDepth 100000 in
theorem tr_8 : atr (bans (cex xft xPb 200000 100) 199979 21 [.inl (.int 8)]) 1000 [some (1, (-1)), none, some (2, (-1)), none, some (2, 5), some (1, 1), some (2, 4), some (2, 2), some (2, 1), some (2, 0), some (1, 0), none, none, some (1, 0), none, none, some (1, 0), none, none, some (2, 3), some (1, 0), none, none, some (1, 0), none, none, some (1, 0), none, none, none, none] (List.replicate 6 aTop) = some [] := by decide +kernel
set_option maxRecDepth 100000 in
theorem tr_9 : atr (bans (cex xft xPb 200000 100) 199979 21 [.inl (.int 9)]) 1000 [some (1, (-1)), none, some (1, 1), some (2, (-1)), none, some (2, 1), some (1, 0), some (2, 0), none, none, some (2, 0), none, none, none, none] (List.replicate 6 aTop) = some [] := by decide +kernel
set_option maxRecDepth 100000 in
theorem tr_10 : atr (bans (cex xft xPb 200000 100) 199979 21 [.inl (.int 10)]) 1000 [some (1, (-1)), none, some (1, 11), some (1, 10), some (1, 5), some (1, 2), some (1, 1), some (1, 0), none, none, none, some (1, 4), some (1, 3), none, none, none, some (1, 8), some (1, 7), some (1, 6), none, none, none, some (1, 9), none, none, none, none] (List.replicate 6 aTop) = some [] := by decide +kernel
set_option maxRecDepth 100000 in
theorem tr_11 : atr (bans (cex xft xPb 200000 100) 199979 21 [.inl (.int 11)]) 1000 [some (1, (-1)), none, some (2, (-1)), none, some (2, 3), none, none] (List.replicate 6 aTop) = some [] := by decide +kernel
set_option maxRecDepth 100000 in
theorem tr_12 : atr (bans (cex xft xPb 200000 100) 199979 21 [.inl (.int 12)]) 1000 [some (1, (-1)), none, none] (List.replicate 6 aTop) = some [] := by decide +kernel
set_option maxRecDepth 100000 in
theorem tr_13 : atr (bans (cex xft xPb 200000 100) 199979 21 [.inl (.int 13)]) 1000 [some (1, (-1)), none, some (1, 9), some (2, (-1)), none, some (2, 9), some (3, (-1)), none, some (3, 9), some (4, (-1)), none, some (4, 2), some (4, 1), some (4, 0), none, none, none, none, none, none, none] (List.replicate 6 aTop) = some [] := by decide +kernel
set_option maxRecDepth 100000 in
theorem tr_14 : atr (bans (cex xft xPb 200000 100) 199979 21 [.inl (.int 14)]) 1000 [some (1, (-1)), none, none] (List.replicate 6 aTop) = some [] := by decide +kernel
set_option maxRecDepth 100000 in
theorem tr_15 : atr (bans (cex xft xPb 200000 100) 199979 21 [.inl (.int 15)]) 1000 [some (1, (-1)), none, none] (List.replicate 6 aTop) = some [] := by decide +kernel
set_option maxRecDepth 100000 in
theorem tr_16 : atr (bans (cex xft xPb 200000 100) 199979 21 [.inl (.int 16)]) 1000 [some (1, (-1)), none, some (1, 9), some (2, (-1)), none, some (2, 0), some (3, (-1)), none, some (3, 0), some (1, 4), some (1, 2), some (1, 1), some (1, 0), none, none, none, some (1, 3), none, none, some (1, 7), some (1, 6), some (1, 5), none, none, none, some (1, 8), none, none, none, none, none] (List.replicate 6 aTop) = some [] := by decide +kernel
set_option maxRecDepth 100000 in
theorem tr_17 : atr (bans (cex xft xPb 200000 100) 199979 21 [.inl (.int 17)]) 1000 [some (1, (-1)), none, some (1, 9), some (2, (-1)), none, some (2, 0), some (3, (-1)), none, some (3, 0), some (4, (-1)), none, some (4, 0), some (1, 4), some (1, 2), some (1, 1), some (1, 0), none, none, none, some (1, 3), none, none, some (1, 7), some (1, 6), some (1, 5), none, none, none, some (1, 8), none, none, some (4, 1), some (1, 4), some (1, 2), some (1, 1), some (1, 0), none, none, none, some (1, 3), none, none, some (1, 7), some (1, 6), some (1, 5), none, none, none, some (1, 8), none, none, none, none, none, none] (List.replicate 6 aTop) = some [] := by decide +kernel

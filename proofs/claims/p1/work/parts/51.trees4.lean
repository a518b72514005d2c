/-! ===== each call on a fresh object, over boxes (on) ===== -/
set_option maxRecDepth 100000 in
theorem tr_29 : atr (bans (cex xft xPb 200000 100) 199979 21 [.inl (.int 29)]) 1000 [some (1, (-1)), none, some (1, 2), some (1, 1), some (1, 0), none, none, none, none] (List.replicate 6 aTop) = some [] := by decide +kernel
set_option maxRecDepth 100000 in
theorem tr_30 : atr (bans (cex xft xPb 200000 100) 199979 21 [.inl (.int 30)]) 1000 [some (1, (-1)), none, some (1, 0), none, some (1, 1), none, none] (List.replicate 6 aTop) = some [] := by decide +kernel
set_option maxRecDepth 100000 in
theorem tr_31 : atr (bans (cex xft xPb 200000 100) 199979 21 [.inl (.int 31)]) 1000 [some (1, (-1)), none, none] (List.replicate 6 aTop) = some [] := by decide +kernel
set_option maxRecDepth 100000 in
theorem tr_32 : atr (bans (cex xft xPb 200000 100) 199979 21 [.inl (.int 32)]) 1000 [some (1, (-1)), none, some (1, 1), some (2, (-1)), none, some (2, 1), some (1, 0), some (2, 0), none, some (3, (-1)), none, none, some (2, 0), some (3, (-1)), none, none, none, none, none] (List.replicate 6 aTop) = some [] := by decide +kernel
set_option maxRecDepth 100000 in
theorem tr_33 : atr (bans (cex xft xPb 200000 100) 199979 21 [.inl (.int 33)]) 1000 [some (1, (-1)), none, some (2, (-1)), none, some (2, 9), some (3, (-1)), none, some (3, 9), some (4, (-1)), none, some (4, 9), some (5, (-1)), none, some (5, 0), some (1, 1), some (1, 0), none, none, none, some (5, 1), some (1, 1), some (1, 0), none, none, none, none, none, none, none] (List.replicate 6 aTop) = some [] := by decide +kernel
set_option maxRecDepth 100000 in
theorem tr_34 : atr (bans (cex xft xPb 200000 100) 199979 21 [.inl (.int 34)]) 1000 [some (1, (-1)), none, some (1, 0), none, some (1, 1), none, none] (List.replicate 6 aTop) = some [] := by decide +kernel
set_option maxRecDepth 100000 in
theorem tr_35 : atr (bans (cex xft xPb 200000 100) 199979 21 [.inl (.int 35)]) 1000 [some (1, (-1)), none, some (2, (-1)), none, some (1, 1), some (1, 0), some (2, 0), none, none, some (2, 0), none, none, none] (List.replicate 6 aTop) = some [] := by decide +kernel
set_option maxRecDepth 100000 in
theorem tr_36 : atr (bans (cex xft xPb 200000 100) 199979 21 [.inl (.int 36)]) 1000 [none] (List.replicate 6 aTop) = some [] := by decide +kernel
set_option maxRecDepth 100000 in
theorem tr_37 : atr (bans (cex xft xPb 200000 100) 199979 21 [.inl (.int 37)]) 1000 [none] (List.replicate 6 aTop) = some [] := by decide +kernel
set_option maxRecDepth 100000 in
theorem tr_38 : atr (bans (cex xft xPb 200000 100) 199979 21 [.inl (.int 38)]) 1000 [some (1, (-1)), none, some (1, 60), some (1, 0), none, none, none] (List.replicate 6 aTop) = some [] := by decide +kernel
set_option maxRecDepth 100000 in
theorem tr_39 : atr (bans (cex xft xPb 200000 100) 199979 21 [.inl (.int 39)]) 1000 [some (1, (-1)), none, some (1, 0), none, some (1, 1), none, none] (List.replicate 6 aTop) = some [] := by decide +kernel
set_option maxRecDepth 100000 in
theorem tr_40 : atr (bans (cex xft xPb 200000 100) 199979 21 [.inl (.int 40)]) 1000 [none] (List.replicate 6 aTop) = some [] := by decide +kernel
set_option maxRecDepth 100000 in
theorem tr_41 : atr (bans (cex xft xPb 200000 100) 199979 21 [.inl (.int 41)]) 1000 [none] (List.replicate 6 aTop) = some [] := by decide +kernel
set_option maxRecDepth 100000 in
theorem tr_42 : atr (bans (cex xft xPb 200000 100) 199979 21 [.inl (.int 42)]) 1000 [none] (List.replicate 6 aTop) = some [] := by decide +kernel
set_option maxRecDepth 100000 in
theorem tr_43 : atr (bans (cex xft xPb 200000 100) 199979 21 [.inl (.int 43)]) 1000 [none] (List.replicate 6 aTop) = some [] := by decide +kernel
set_option maxRecDepth 100000 in
theorem tr_44 : atr (bans (cex xft xPb 200000 100) 199979 21 [.inl (.int 44)]) 1000 [none] (List.replicate 6 aTop) = some [] := by decide +kernel
set_option maxRecDepth 100000 in
theorem tr_45 : atr (bans (cex xft xPb 200000 100) 199979 21 [.inl (.int 45)]) 1000 [none] (List.replicate 6 aTop) = some [] := by decide +kernel
set_option maxRecDepth 100000 in
theorem tr_46 : atr (bans (cex xft xPb 200000 100) 199979 21 [.inl (.int 46)]) 1000 [none] (List.replicate 6 aTop) = some [] := by decide +kernel
set_option maxRecDepth 100000 in
theorem tr_47 : atr (bans (cex xft xPb 200000 100) 199979 21 [.inl (.int 47)]) 1000 [none] (List.replicate 6 aTop) = some [] := by decide +kernel
set_option maxRecDepth 100000 in
theorem tr_48 : atr (bans (cex xft xPb 200000 100) 199979 21 [.inl (.int 48)]) 1000 [none] (List.replicate 6 aTop) = some [] := by decide +kernel
set_option maxRecDepth 100000 in
theorem tr_49 : atr (bans (cex xft xPb 200000 100) 199979 21 [.inl (.int 49)]) 1000 [none] (List.replicate 6 aTop) = some [] := by decide +kernel
set_option maxRecDepth 100000 in
theorem tr_50 : atr (bans (cex xft xPb 200000 100) 199979 21 [.inl (.int 50)]) 1000 [none] (List.replicate 6 aTop) = some [] := by decide +kernel
set_option maxRecDepth 100000 in
theorem tr_51 : atr (bans (cex xft xPb 200000 100) 199979 21 [.inl (.int 51)]) 1000 [none] (List.replicate 6 aTop) = some [] := by decide +kernel
set_option maxRecDepth 100000 in
theorem tr_52 : atr (bans (cex xft xPb 200000 100) 199979 21 [.inl (.int 52)]) 1000 [none] (List.replicate 6 aTop) = some [] := by decide +kernel
set_option maxRecDepth 100000 in
theorem tr_53 : atr (bans (cex xft xPb 200000 100) 199979 21 [.inl (.int 53)]) 1000 [none] (List.replicate 6 aTop) = some [] := by decide +kernel
set_option maxRecDepth 100000 in
theorem tr_54 : atr (bans (cex xft xPb 200000 100) 199979 21 [.inl (.int 54)]) 1000 [none] (List.replicate 6 aTop) = some [] := by decide +kernel
set_option maxRecDepth 100000 in
theorem tr_55 : atr (bans (cex xft xPb 200000 100) 199979 21 [.inl (.int 55)]) 1000 [none] (List.replicate 6 aTop) = some [] := by decide +kernel
set_option maxRecDepth 100000 in
theorem tr_56 : atr (bans (cex xft xPb 200000 100) 199979 21 [.inl (.int 56)]) 1000 [none] (List.replicate 6 aTop) = some [] := by decide +kernel
set_option maxRecDepth 100000 in
theorem tr_57 : atr (bans (cex xft xPb 200000 100) 199979 21 [.inl (.int 57)]) 1000 [none] (List.replicate 6 aTop) = some [] := by decide +kernel
set_option maxRecDepth 100000 in
theorem tr_58 : atr (bans (cex xft xPb 200000 100) 199979 21 [.inl (.int 58)]) 1000 [none] (List.replicate 6 aTop) = some [] := by decide +kernel
set_option maxRecDepth 100000 in
theorem tr_59 : atr (bans (cex xft xPb 200000 100) 199979 21 [.inl (.int 59)]) 1000 [none] (List.replicate 6 aTop) = some [] := by decide +kernel
set_option maxRecDepth 100000 in
theorem tr_60 : atr (bans (cex xft xPb 200000 100) 199979 21 [.inl (.int 60)]) 1000 [none] (List.replicate 6 aTop) = some [] := by decide +kernel
set_option maxRecDepth 100000 in
theorem tr_61 : atr (bans (cex xft xPb 200000 100) 199979 21 [.inl (.int 61)]) 1000 [none] (List.replicate 6 aTop) = some [] := by decide +kernel
set_option maxRecDepth 100000 in
theorem tr_62 : atr (bans (cex xft xPb 200000 100) 199979 21 [.inl (.int 62)]) 1000 [none] (List.replicate 6 aTop) = some [] := by decide +kernel
set_option maxRecDepth 100000 in
theorem tr_63 : atr (bans (cex xft xPb 200000 100) 199979 21 [.inl (.int 63)]) 1000 [none] (List.replicate 6 aTop) = some [] := by decide +kernel

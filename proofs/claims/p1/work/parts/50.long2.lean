/-! ===== the long calls, each apart (on) ===== -/
noncomputable def lc_22_1_h0 : bH := bset ah1 0 (.inr (.inl (0, [aTop, (0, 9), (0, 9), (0, 9), (1, 1), aTop].map aiN)))
noncomputable def lc_22_1_h1 : bH := lc_22_1_h0
def lc_22_1_a0 : List aV := [.inl (.ref 13), .inr (0, 9), .inr (0, 9), .inr (0, 9), .inl (.int 1)]
set_option maxRecDepth 100000 in
theorem lc_22_1_b0 : eqR (cex xft xPb 200000 100 141 lc_22_1_a0 lc_22_1_h0) (some (.inl (.int 0))) lc_22_1_h1 = true := by decide +kernel
noncomputable def lc_22_1_h2 : bH := bset (lc_22_1_h1) 142 (.inr (.inl (0, [.inr (0, 9), .inr (0, 9), .inr (0, 9)])))
def lc_22_1_a1 : List aV := [.inl (.ref 103), .inr (0, 9), .inr (0, 9), .inr (0, 9), .inl (.int 1)]
set_option maxRecDepth 100000 in
theorem lc_22_1_b1 : eqR (cex xft xPb 200000 100 307 lc_22_1_a1 lc_22_1_h1) (some (.inl (.int 0))) lc_22_1_h2 = true := by decide +kernel

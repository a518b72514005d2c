/-! ===== the long calls, each apart ===== -/
def eqH (h g : bH) : Bool := eqL (eqL eqC) h g
theorem eqH_ok {h g : bH} (e : eqH h g = true) : h = g := eqL_ok (fun a b q => eqL_ok eqC_ok _ _ q) _ _ e
def eqR (r : bR) (v : Option aV) (h : bH) : Bool := match r with
  | some (w, g) => eqO w v && eqH g h
  | none => false
theorem eqR_ok {r : bR} {v : Option aV} {h : bH} (e : eqR r v h = true) : r = some (v, h) := by
  unfold eqR at e
  split at e
  · rw [Bool.and_eq_true] at e
    rw [eqO_ok _ _ e.1, eqH_ok e.2]
  · cases e
noncomputable def lc_22_0_h0 : bH := bset ah1 0 (.inr (.inl (0, [aTop, (0, 9), (0, 9), (0, 9), (0, 0), aTop].map aiN)))
noncomputable def lc_22_0_h1 : bH := lc_22_0_h0
def lc_22_0_a0 : List aV := [.inl (.ref 13), .inr (0, 9), .inr (0, 9), .inr (0, 9), .inl (.int 0)]
set_option maxRecDepth 100000 in
theorem lc_22_0_b0 : eqR (cex xft xPb 200000 100 141 lc_22_0_a0 lc_22_0_h0) (some (.inl (.int 10))) lc_22_0_h1 = true := by decide +kernel
noncomputable def lc_22_0_h2 : bH := bset (lc_22_0_h1) 142 (.inr (.inl (0, [.inr (0, 9), .inr (0, 9), .inr (0, 9)])))
def lc_22_0_a1 : List aV := [.inl (.ref 103), .inr (0, 9), .inr (0, 9), .inr (0, 9), .inl (.int 0)]
set_option maxRecDepth 100000 in
theorem lc_22_0_b1 : eqR (cex xft xPb 200000 100 307 lc_22_0_a1 lc_22_0_h1) (some (.inl (.int 10))) lc_22_0_h2 = true := by decide +kernel

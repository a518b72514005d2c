/-! ===== the long calls, each apart ===== -/
def eqH (h g : bH) : Bool := eqL (eqL eqC) h g
theorem eqH_ok {h g : bH} (e : eqH h g = true) : h = g := eqL_ok (fun a b q => eqL_ok eqC_ok _ _ q) _ _ e
def eqR (r : bR) (v : Option aV) (h : bH) : Bool := match r with
  | some (w, g) => eqO w v && eqH g h
  | none => false
theorem eqR_ok {r : bR} {v : Option aV} {h : bH} (e : eqR r v h = true) : r = some (v, h) := by
  unfold eqR at e
  split at e
  · rw [Bool.and_eq_true] at e
    rw [eqO_ok _ _ e.1, eqH_ok e.2]
  · cases e
noncomputable def lc_22_0_h0 : bH := bset ah1 0 (.inr (.inl (0, [aTop, (0, 9), (0, 9), (0, 9), (0, 0), aTop].map aiN)))
noncomputable def lc_22_0_h1 : bH := lc_22_0_h0
def lc_22_0_a0 : List aV := [.inl (.ref 13), .inr (0, 9), .inr (0, 9), .inr (0, 9), .inl (.int 0)]
set_option maxRecDepth 100000 in
theorem lc_22_0_b0 : eqR (cex xft xPb 200000 100 141 lc_22_0_a0 lc_22_0_h0) (some (.inl (.int 10))) lc_22_0_h1 = true := by decide +kernel
noncomputable def lc_22_0_h2 : bH := bset (lc_22_0_h1) 142 (.inr (.inl (0, [.inr (0, 9), .inr (0, 9), .inr (0, 9)])))
def lc_22_0_a1 : List aV := [.inl (.ref 103), .inr (0, 9), .inr (0, 9), .inr (0, 9), .inl (.int 0)]
set_option maxRecDepth 100000 in
theorem lc_22_0_b1 : eqR (cex xft xPb 200000 100 307 lc_22_0_a1 lc_22_0_h1) (some (.inl (.int 10))) lc_22_0_h2 = true := by decide +kernel
noncomputable def lc_22_1_h0 : bH := bset ah1 0 (.inr (.inl (0, [aTop, (0, 9), (0, 9), (0, 9), (1, 1), aTop].map aiN)))
noncomputable def lc_22_1_h1 : bH := lc_22_1_h0
def lc_22_1_a0 : List aV := [.inl (.ref 13), .inr (0, 9), .inr (0, 9), .inr (0, 9), .inl (.int 1)]
set_option maxRecDepth 100000 in
theorem lc_22_1_b0 : eqR (cex xft xPb 200000 100 141 lc_22_1_a0 lc_22_1_h0) (some (.inl (.int 0))) lc_22_1_h1 = true := by decide +kernel
noncomputable def lc_22_1_h2 : bH := bset (lc_22_1_h1) 142 (.inr (.inl (0, [.inr (0, 9), .inr (0, 9), .inr (0, 9)])))
def lc_22_1_a1 : List aV := [.inl (.ref 103), .inr (0, 9), .inr (0, 9), .inr (0, 9), .inl (.int 1)]
set_option maxRecDepth 100000 in
theorem lc_22_1_b1 : eqR (cex xft xPb 200000 100 307 lc_22_1_a1 lc_22_1_h1) (some (.inl (.int 0))) lc_22_1_h2 = true := by decide +kernel
noncomputable def lc_22_2_h0 : bH := bset ah1 0 (.inr (.inl (0, [aTop, (0, 9), (0, 9), (0, 9), (2, 2), aTop].map aiN)))
noncomputable def lc_22_2_h1 : bH := lc_22_2_h0
def lc_22_2_a0 : List aV := [.inl (.ref 13), .inr (0, 9), .inr (0, 9), .inr (0, 9), .inl (.int 2)]
set_option maxRecDepth 100000 in
theorem lc_22_2_b0 : eqR (cex xft xPb 200000 100 141 lc_22_2_a0 lc_22_2_h0) (some (.inl (.int 0))) lc_22_2_h1 = true := by decide +kernel
noncomputable def lc_22_2_h2 : bH := bset (lc_22_2_h1) 142 (.inr (.inl (0, [.inr (0, 9), .inr (0, 9), .inr (0, 9)])))
def lc_22_2_a1 : List aV := [.inl (.ref 103), .inr (0, 9), .inr (0, 9), .inr (0, 9), .inl (.int 2)]
set_option maxRecDepth 100000 in
theorem lc_22_2_b1 : eqR (cex xft xPb 200000 100 307 lc_22_2_a1 lc_22_2_h1) (some (.inl (.int 0))) lc_22_2_h2 = true := by decide +kernel
noncomputable def cm_22 (k : Nat) (as : List aV) (h : bH) : bR :=
  if k = 141 ∧ eqL eqV as lc_22_0_a0 = true ∧ eqH h lc_22_0_h0 = true then some (some (.inl (.int 10)), lc_22_0_h1) else
  if k = 307 ∧ eqL eqV as lc_22_0_a1 = true ∧ eqH h lc_22_0_h1 = true then some (some (.inl (.int 10)), lc_22_0_h2) else
  if k = 141 ∧ eqL eqV as lc_22_1_a0 = true ∧ eqH h lc_22_1_h0 = true then some (some (.inl (.int 0)), lc_22_1_h1) else
  if k = 307 ∧ eqL eqV as lc_22_1_a1 = true ∧ eqH h lc_22_1_h1 = true then some (some (.inl (.int 0)), lc_22_1_h2) else
  if k = 141 ∧ eqL eqV as lc_22_2_a0 = true ∧ eqH h lc_22_2_h0 = true then some (some (.inl (.int 0)), lc_22_2_h1) else
  if k = 307 ∧ eqL eqV as lc_22_2_a1 = true ∧ eqH h lc_22_2_h1 = true then some (some (.inl (.int 0)), lc_22_2_h2) else
  cex xft xPb 200000 100 k as h
theorem cm_22_ok (k : Nat) (as : List aV) (h : bH) (r : Option aV × bH) (e : cm_22 k as h = some r) : bex xft xPb 200000 100 k as h = some r := by
  refine cex_ok 100 k as h r ?_
  unfold cm_22 at e
  split at e
  · rename_i q
    rw [q.1, eqL_ok eqV_ok _ _ q.2.1, eqH_ok q.2.2, eqR_ok lc_22_0_b0]
    exact e
  split at e
  · rename_i q
    rw [q.1, eqL_ok eqV_ok _ _ q.2.1, eqH_ok q.2.2, eqR_ok lc_22_0_b1]
    exact e
  split at e
  · rename_i q
    rw [q.1, eqL_ok eqV_ok _ _ q.2.1, eqH_ok q.2.2, eqR_ok lc_22_1_b0]
    exact e
  split at e
  · rename_i q
    rw [q.1, eqL_ok eqV_ok _ _ q.2.1, eqH_ok q.2.2, eqR_ok lc_22_1_b1]
    exact e
  split at e
  · rename_i q
    rw [q.1, eqL_ok eqV_ok _ _ q.2.1, eqH_ok q.2.2, eqR_ok lc_22_2_b0]
    exact e
  split at e
  · rename_i q
    rw [q.1, eqL_ok eqV_ok _ _ q.2.1, eqH_ok q.2.2, eqR_ok lc_22_2_b1]
    exact e
  exact e

/-! ===== the long calls, remembered ===== -/
noncomputable def cm_22 (k : Nat) (as : List aV) (h : bH) : bR :=
  if k = 141 ∧ eqL eqV as lc_22_0_a0 = true ∧ eqH h lc_22_0_h0 = true then some (some (.inl (.int 10)), lc_22_0_h1) else
  if k = 307 ∧ eqL eqV as lc_22_0_a1 = true ∧ eqH h lc_22_0_h1 = true then some (some (.inl (.int 10)), lc_22_0_h2) else
  if k = 141 ∧ eqL eqV as lc_22_1_a0 = true ∧ eqH h lc_22_1_h0 = true then some (some (.inl (.int 0)), lc_22_1_h1) else
  if k = 307 ∧ eqL eqV as lc_22_1_a1 = true ∧ eqH h lc_22_1_h1 = true then some (some (.inl (.int 0)), lc_22_1_h2) else
  if k = 141 ∧ eqL eqV as lc_22_2_a0 = true ∧ eqH h lc_22_2_h0 = true then some (some (.inl (.int 0)), lc_22_2_h1) else
  if k = 307 ∧ eqL eqV as lc_22_2_a1 = true ∧ eqH h lc_22_2_h1 = true then some (some (.inl (.int 0)), lc_22_2_h2) else
  cex xft xPb 200000 100 k as h
theorem cm_22_ok (k : Nat) (as : List aV) (h : bH) (r : Option aV × bH) (e : cm_22 k as h = some r) : bex xft xPb 200000 100 k as h = some r := by
  refine cex_ok 100 k as h r ?_
  unfold cm_22 at e
  split at e
  · rename_i q
    rw [q.1, eqL_ok eqV_ok _ _ q.2.1, eqH_ok q.2.2, eqR_ok lc_22_0_b0]
    exact e
  split at e
  · rename_i q
    rw [q.1, eqL_ok eqV_ok _ _ q.2.1, eqH_ok q.2.2, eqR_ok lc_22_0_b1]
    exact e
  split at e
  · rename_i q
    rw [q.1, eqL_ok eqV_ok _ _ q.2.1, eqH_ok q.2.2, eqR_ok lc_22_1_b0]
    exact e
  split at e
  · rename_i q
    rw [q.1, eqL_ok eqV_ok _ _ q.2.1, eqH_ok q.2.2, eqR_ok lc_22_1_b1]
    exact e
  split at e
  · rename_i q
    rw [q.1, eqL_ok eqV_ok _ _ q.2.1, eqH_ok q.2.2, eqR_ok lc_22_2_b0]
    exact e
  split at e
  · rename_i q
    rw [q.1, eqL_ok eqV_ok _ _ q.2.1, eqH_ok q.2.2, eqR_ok lc_22_2_b1]
    exact e
  exact e

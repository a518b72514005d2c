/-! ===== the class's reader: what holds at each step ===== -/
def jk_X (n o : Nat) (b : Int → Int) (m : Int) (σ : jw_H) : Prop := jx_po n o ∧ (σ 33 2).toNat = o ∧ jk_tx σ 34 b ∧ σ 34 1 = m ∧ (0 ≤ σ 34 0 ∧ σ 34 0 ≤ m) ∧ m ≤ 260 ∧ (-10000 ≤ σ 34 2 ∧ σ 34 2 ≤ 10000) ∧ (1 ≤ σ o 0 ∧ σ o 0 ≤ 3) ∧ (0 ≤ σ o 1 ∧ σ o 1 ≤ 3) ∧ (0 ≤ σ o 2 ∧ σ o 2 ≤ 4) ∧ (0 ≤ σ 33 1 ∧ σ 33 1 ≤ 7) ∧ jk_st σ
def jk_D (o : Nat) (σ σ' : jw_H) : Prop := (∀ c, c ≠ 33 → c ≠ 34 → (c < o ∨ o + 5 < c) → σ' c = σ c) ∧ σ' 33 2 = σ 33 2 ∧ (σ 34 2 ≠ 0 → σ' 34 2 = σ 34 2) ∧ σ 34 0 ≤ σ' 34 0
/-- a step that changes the text's place and fault alone -/
def jk_E (n o : Nat) (b : Int → Int) (m : Int) (σ σ' : jw_H) : Prop := jk_X n o b m σ' ∧ jk_D o σ σ' ∧ ∀ c, c ≠ 34 → σ' c = σ c
theorem jk_X_of {n o : Nat} {b : Int → Int} {m : Int} {σ σ' : jw_H} (h : jk_X n o b m σ) (f : ∀ c, c ≠ 33 → c ≠ 34 → (c < o ∨ o + 5 < c) → σ' c = σ c) (e2 : σ' 33 2 = σ 33 2) (e1 : 0 ≤ σ' 33 1 ∧ σ' 33 1 ≤ 7) (t1 : σ' 34 1 = σ 34 1) (t3 : σ' 34 3 = σ 34 3) (ta : σ 34 0 ≤ σ' 34 0 ∧ σ' 34 0 ≤ m) (r2 : -10000 ≤ σ' 34 2 ∧ σ' 34 2 ≤ 10000) (q0 : 1 ≤ σ' o 0 ∧ σ' o 0 ≤ 3) (q1 : 0 ≤ σ' o 1 ∧ σ' o 1 ≤ 3) (q2 : 0 ≤ σ' o 2 ∧ σ' o 2 ≤ 4) : jk_X n o b m σ' := by
  obtain ⟨hp, h1, h2, h3, h4, h5, h6, h7, h8, h9, h10, h11⟩ := h
  have hpo := hp.1
  refine ⟨hp, by rw [e2]; exact h1, ?_, by rw [t1]; exact h3, by omega, h5, r2, q0, q1, q2, e1, jk_st_fr h11 (fun c hc => f c (by omega) (by omega) (by omega))⟩
  obtain ⟨g1, g2, g3, g4⟩ := h2
  unfold jk_tx
  rw [t3, t1, f 14 (by omega) (by omega) (by omega)]
  exact ⟨g1, by omega, g3, g4⟩
theorem jk_D_rf (o : Nat) (σ : jw_H) : jk_D o σ σ := ⟨fun _ _ _ _ => rfl, rfl, fun _ => rfl, Int.le_refl _⟩
theorem jk_D_tr {o : Nat} {σ σ' σ'' : jw_H} (h : jk_D o σ σ') (k : jk_D o σ' σ'') : jk_D o σ σ'' := ⟨fun c h1 h2 h3 => (k.1 c h1 h2 h3).trans (h.1 c h1 h2 h3), k.2.1.trans h.2.1, fun hn => by rw [← h.2.2.1 hn]; exact k.2.2.1 (by rw [h.2.2.1 hn]; exact hn), Int.le_trans h.2.2.2 k.2.2.2⟩
theorem jk_E_rf {n o : Nat} {b : Int → Int} {m : Int} {σ : jw_H} (h : jk_X n o b m σ) : jk_E n o b m σ σ := ⟨h, jk_D_rf o σ, fun _ _ => rfl⟩
theorem jk_E_tr {n o : Nat} {b : Int → Int} {m : Int} {σ σ' σ'' : jw_H} (h : jk_E n o b m σ σ') (k : jk_E n o b m σ' σ'') : jk_E n o b m σ σ'' := ⟨k.1, jk_D_tr h.2.1 k.2.1, fun c hc => (k.2.2 c hc).trans (h.2.2 c hc)⟩
theorem jk_E_at {n o : Nat} {b : Int → Int} {m : Int} {σ : jw_H} (h : jk_X n o b m σ) (hl : σ 34 0 < m) : jk_E n o b m σ (jw_up σ 34 0 (σ 34 0 + 1)) := by
  have hx := h
  obtain ⟨hp, h1, h2, h3, h4, h5, h6, h7, h8, h9, h10, h11⟩ := hx
  have hpo := hp.1
  refine ⟨jk_X_of h (fun c c1 c2 _ => jw_up_out _ _ _ c2) (jw_up_ne _ (by omega)) (by rw [jw_up_ne _ (by omega)]; exact h10) (jw_up_ne _ (by omega)) (jw_up_ne _ (by omega)) (by rw [jw_up_eq]; omega) (by rw [jw_up_ne _ (by omega)]; exact h6) (by rw [jw_up_out _ _ _ (by omega)]; exact h7) (by rw [jw_up_out _ _ _ (by omega)]; exact h8) (by rw [jw_up_out _ _ _ (by omega)]; exact h9), ⟨fun c c1 c2 _ => jw_up_out _ _ _ c2, jw_up_ne _ (by omega), fun _ => jw_up_ne _ (by omega), by rw [jw_up_eq]; omega⟩, fun c hc => jw_up_out _ _ _ hc⟩
theorem jk_fl_out (σ : jw_H) (c i : Int) {o : Nat} (h : o ≠ 34) : jk_fl σ 34 c i o = σ o := by
  funext j
  exact jk_fl_ne σ 34 c i (.inl h)
theorem jk_fl_eq {σ : jw_H} (c i : Int) (h : σ 34 2 = 0) : jk_fl σ 34 c i 34 2 = -1000 * c - i := by
  unfold jk_fl
  rw [if_pos h, jw_up_eq]
theorem jk_fl_st {σ : jw_H} (c i : Int) (h : σ 34 2 ≠ 0) : jk_fl σ 34 c i = σ := if_neg h
theorem jk_E_fl {n o : Nat} {b : Int → Int} {m : Int} {σ : jw_H} (h : jk_X n o b m σ) {c i : Int} (hc : 0 ≤ c ∧ c ≤ 9) (hi : 0 ≤ i ∧ i ≤ 500) : jk_E n o b m σ (jk_fl σ 34 c i) := by
  have hx := h
  obtain ⟨hp, h1, h2, h3, h4, h5, h6, h7, h8, h9, h10, h11⟩ := hx
  have hpo := hp.1
  have h6' : -10000 ≤ jk_fl σ 34 c i 34 2 ∧ jk_fl σ 34 c i 34 2 ≤ 10000 := by
    by_cases hz : σ 34 2 = 0
    · rw [jk_fl_eq c i hz]
      omega
    · rw [jk_fl_st c i hz]
      exact h6
  refine ⟨jk_X_of h (fun c c1 c2 _ => jk_fl_out σ _ _ c2) (jk_fl_ne _ _ _ _ (by omega)) (by rw [jk_fl_ne _ _ _ _ (by omega)]; exact h10) (jk_fl_ne _ _ _ _ (by omega)) (jk_fl_ne _ _ _ _ (by omega)) (by rw [jk_fl_ne _ _ _ _ (by omega)]; omega) h6' (by rw [jk_fl_out _ _ _ (by omega)]; exact h7) (by rw [jk_fl_out _ _ _ (by omega)]; exact h8) (by rw [jk_fl_out _ _ _ (by omega)]; exact h9), ⟨fun c c1 c2 _ => jk_fl_out σ _ _ c2, jk_fl_ne _ _ _ _ (by omega), fun hz => by rw [jk_fl_st c i hz], by rw [jk_fl_ne _ _ _ _ (by omega)]; omega⟩, fun c hc => jk_fl_out σ _ _ hc⟩
theorem jk_X_h {n o : Nat} {b : Int → Int} {m : Int} {σ : jw_H} (h : jk_X n o b m σ) {i : Int} (i0 : 0 ≤ i) : -1 ≤ jk_h b m i ∧ jk_h b m i ≤ 255 ∧ (jk_h b m i ≠ -1 → i < m) := by
  obtain ⟨hp, h1, h2, h3, -⟩ := h
  have hr := jk_h_rg (b := b) (n := σ 34 1) (i := i) i0 (fun j j0 j1 => (h2.2.2.2 j j0 j1).2)
  rw [h3] at hr
  refine ⟨hr.1, hr.2, fun hn => Classical.byContradiction (fun w => hn ?_)⟩
  unfold jk_h
  rw [if_neg w]
/-- a row of the problem -/
theorem jk_XD_row {n o : Nat} {b : Int → Int} {m : Int} {σ : jw_H} (h : jk_X n o b m σ) {w : Nat} (hw : o < w ∧ w ≤ o + 5) (j v : Int) : jk_X n o b m (jw_up σ w j v) ∧ jk_D o σ (jw_up σ w j v) := by
  have hx := h
  obtain ⟨hp, h1, h2, h3, h4, h5, h6, h7, h8, h9, h10, h11⟩ := hx
  have hpo := hp.1
  refine ⟨jk_X_of h (fun c c1 c2 c3 => jw_up_out _ _ _ (by omega)) (by rw [jw_up_out _ _ _ (by omega)]) (by rw [jw_up_out _ _ _ (by omega)]; exact h10) (by rw [jw_up_out _ _ _ (by omega)]) (by rw [jw_up_out _ _ _ (by omega)]) (by rw [jw_up_out _ _ _ (by omega)]; omega) (by rw [jw_up_out _ _ _ (by omega)]; exact h6) (by rw [jw_up_out _ _ _ (by omega)]; exact h7) (by rw [jw_up_out _ _ _ (by omega)]; exact h8) (by rw [jw_up_out _ _ _ (by omega)]; exact h9), fun c c1 c2 c3 => jw_up_out _ _ _ (by omega), by rw [jw_up_out _ _ _ (by omega)], fun _ => by rw [jw_up_out _ _ _ (by omega)], by rw [jw_up_out _ _ _ (by omega)]; exact Int.le_refl _⟩
/-- a field of the problem: how many quantities, wishes, what is kept -/
theorem jk_XD_f {n o : Nat} {b : Int → Int} {m : Int} {σ : jw_H} (h : jk_X n o b m σ) {j v : Int} (hj : (j = 0 ∧ 1 ≤ v ∧ v ≤ 3) ∨ (j = 1 ∧ 0 ≤ v ∧ v ≤ 3) ∨ (j = 2 ∧ 0 ≤ v ∧ v ≤ 4)) : jk_X n o b m (jw_up σ o j v) ∧ jk_D o σ (jw_up σ o j v) := by
  have hx := h
  obtain ⟨hp, h1, h2, h3, h4, h5, h6, h7, h8, h9, h10, h11⟩ := hx
  have hpo := hp.1
  have q : ∀ k, jw_up σ o j v o k = if k = j then v else σ o k := fun k => by
    by_cases hk : k = j
    · rw [hk, jw_up_eq, if_pos rfl]
    · rw [jw_up_ne _ (by omega), if_neg hk]
  refine ⟨jk_X_of h (fun c c1 c2 c3 => jw_up_out _ _ _ (by omega)) (by rw [jw_up_out _ _ _ (by omega)]) (by rw [jw_up_out _ _ _ (by omega)]; exact h10) (by rw [jw_up_out _ _ _ (by omega)]) (by rw [jw_up_out _ _ _ (by omega)]) (by rw [jw_up_out _ _ _ (by omega)]; omega) (by rw [jw_up_out _ _ _ (by omega)]; exact h6) ?_ ?_ ?_, fun c c1 c2 c3 => jw_up_out _ _ _ (by omega), by rw [jw_up_out _ _ _ (by omega)], fun _ => by rw [jw_up_out _ _ _ (by omega)], by rw [jw_up_out _ _ _ (by omega)]; exact Int.le_refl _⟩
  all_goals rw [q]; split <;> omega
/-- which boxes were told -/
theorem jk_XD_b {n o : Nat} {b : Int → Int} {m : Int} {σ : jw_H} (h : jk_X n o b m σ) {v : Int} (hv : 0 ≤ v ∧ v ≤ 7) : jk_X n o b m (jw_up σ 33 1 v) ∧ jk_D o σ (jw_up σ 33 1 v) := by
  have hx := h
  obtain ⟨hp, h1, h2, h3, h4, h5, h6, h7, h8, h9, h10, h11⟩ := hx
  have hpo := hp.1
  refine ⟨jk_X_of h (fun c c1 c2 c3 => jw_up_out _ _ _ (by omega)) (jw_up_ne _ (by omega)) (by rw [jw_up_eq]; exact hv) (by rw [jw_up_out _ _ _ (by omega)]) (by rw [jw_up_out _ _ _ (by omega)]) (by rw [jw_up_out _ _ _ (by omega)]; omega) (by rw [jw_up_out _ _ _ (by omega)]; exact h6) (by rw [jw_up_out _ _ _ (by omega)]; exact h7) (by rw [jw_up_out _ _ _ (by omega)]; exact h8) (by rw [jw_up_out _ _ _ (by omega)]; exact h9), fun c c1 c2 c3 => jw_up_out _ _ _ (by omega), jw_up_ne _ (by omega), fun _ => by rw [jw_up_out _ _ _ (by omega)], by rw [jw_up_out _ _ _ (by omega)]; exact Int.le_refl _⟩
section JKX
variable {n o : Nat} {b : Int → Int} {m : Int} {σ : jw_H}
theorem jk_hereX (h : jk_X n o b m σ) : jw_T (js_S n) 1 107 [.inr (.inr 34)] σ (fun r σ' => r = some (.inl (jk_h b m (σ 34 0))) ∧ σ' = σ) := by
  obtain ⟨hp, h1, h2, h3, -⟩ := h
  rw [← h3]
  exact jk_here (jk_to_34 n) h2
theorem jk_failX (h : jk_X n o b m σ) {c i : Int} (hc : 0 ≤ c ∧ c ≤ 9) (hi : 0 ≤ i ∧ i ≤ 500) : jw_T (js_S n) 1 106 [.inr (.inr 34), .inl c, .inl i] σ (fun r σ' => r = none ∧ jk_E n o b m σ σ' ∧ σ' 34 0 = σ 34 0 ∧ (σ 34 2 = 0 → σ' 34 2 = -1000 * c - i)) := by
  have h6 := h.2.2.2.2.2.2.1
  refine jw_T_mono (jk_fail (jk_to_34 n) (by omega) (by omega) (by unfold jw_rg; omega)) (Nat.le_refl _) (fun r σ' hh => ⟨hh.1, ?_⟩)
  rw [show σ' = jk_fl σ 34 c i from hh.2]
  exact ⟨jk_E_fl h hc hi, jk_fl_ne _ _ _ _ (by omega), fun hz => jk_fl_eq c i hz⟩
theorem jk_expectX (h : jk_X n o b m σ) {x : Int} (hx : 0 ≤ x ∧ x ≤ 255) : jw_T (js_S n) 2 108 [.inr (.inr 34), .inl x] σ (fun r σ' => r = none ∧ jk_E n o b m σ σ' ∧ ((jk_h b m (σ 34 0) = x ∧ σ' 34 2 = σ 34 2 ∧ σ' 34 0 = σ 34 0 + 1) ∨ (jk_h b m (σ 34 0) ≠ x ∧ (σ 34 2 = 0 → σ' 34 2 = -1000 * 1 - σ 34 0)))) := by
  have h6 := h.2.2.2.2.2.2.1
  have h4 := h.2.2.2.2.1
  have h5 := h.2.2.2.2.2.1
  have h3 := h.2.2.2.1
  have hh := jk_X_h h h4.1
  refine jw_T_mono (jk_expect (jk_to_34 n) h.2.2.1 (by unfold jw_rg; omega) (by unfold jw_rg; omega)) (Nat.le_refl _) ?_
  rw [h3]
  rintro r σ' ⟨hr, ⟨hc, rfl⟩ | ⟨hc, hs⟩⟩
  · exact ⟨hr, jk_E_at h (hh.2.2 (by omega)), .inl ⟨hc, jw_up_ne _ (by omega), jw_up_eq _ _ _ _⟩⟩
  · rw [show σ' = jk_fl σ 34 1 (σ 34 0) from hs]
    exact ⟨hr, jk_E_fl h (by omega) (by omega), .inr ⟨hc, fun hz => jk_fl_eq 1 _ hz⟩⟩
theorem jk_refuseX (h : jk_X n o b m σ) : jw_T (js_S n) 2 111 [.inr (.inr 34)] σ (fun r σ' => r = none ∧ jk_E n o b m σ σ' ∧ σ' 34 0 = σ 34 0 ∧ ((¬ jk_dg (jk_h b m (σ 34 0)) ∧ σ' 34 2 = σ 34 2) ∨ (jk_dg (jk_h b m (σ 34 0)) ∧ (σ 34 2 = 0 → σ' 34 2 = -1000 * 2 - σ 34 0)))) := by
  have h6 := h.2.2.2.2.2.2.1
  have h4 := h.2.2.2.2.1
  have h5 := h.2.2.2.2.2.1
  have h3 := h.2.2.2.1
  refine jw_T_mono (jk_refuse (jk_to_34 n) h.2.2.1 (by unfold jw_rg; omega)) (Nat.le_refl _) ?_
  rw [h3]
  rintro r σ' ⟨hr, ⟨hc, rfl⟩ | ⟨hc, hs⟩⟩
  · exact ⟨hr, jk_E_rf h, rfl, .inl ⟨hc, rfl⟩⟩
  · rw [show σ' = jk_fl σ 34 2 (σ 34 0) from hs]
    exact ⟨hr, jk_E_fl h (by omega) (by omega), jk_fl_ne _ _ _ _ (by omega), .inr ⟨hc, fun hz => jk_fl_eq 2 _ hz⟩⟩
/-- a number of one or two digits: fault, number, the place behind it -/
noncomputable def jk_n2 (b : Int → Int) (m i : Int) : Int × Int × Int := @ite _ (jk_dg (jk_h b m i)) (Classical.propDecidable _) (@ite _ (jk_dg (jk_h b m (i + 1))) (Classical.propDecidable _) (0, 10 * (jk_h b m i - 48) + (jk_h b m (i + 1) - 48), i + 2) (0, jk_h b m i - 48, i + 1)) (-1000 * 1 - i, 0, i)
theorem jk_n2_a {i : Int} (h : ¬ jk_dg (jk_h b m i)) : jk_n2 b m i = (-1000 * 1 - i, 0, i) := if_neg h
theorem jk_n2_b {i : Int} (h : jk_dg (jk_h b m i)) (h1 : ¬ jk_dg (jk_h b m (i + 1))) : jk_n2 b m i = (0, jk_h b m i - 48, i + 1) := (if_pos h).trans (if_neg h1)
theorem jk_n2_c {i : Int} (h : jk_dg (jk_h b m i)) (h1 : jk_dg (jk_h b m (i + 1))) : jk_n2 b m i = (0, 10 * (jk_h b m i - 48) + (jk_h b m (i + 1) - 48), i + 2) := (if_pos h).trans (if_pos h1)
theorem jk_numberX (h : jk_X n o b m σ) : jw_T (js_S n) 2 110 [.inr (.inr 34), .inl 2] σ (fun r σ' => ∃ v, r = some (.inl v) ∧ (0 ≤ v ∧ v ≤ 99) ∧ jk_E n o b m σ σ' ∧ (σ 34 2 = 0 → σ' 34 2 = (jk_n2 b m (σ 34 0)).1 ∧ ((jk_n2 b m (σ 34 0)).1 = 0 → v = (jk_n2 b m (σ 34 0)).2.1 ∧ σ' 34 0 = (jk_n2 b m (σ 34 0)).2.2))) := by
  have h6 := h.2.2.2.2.2.2.1
  have h4 := h.2.2.2.2.1
  have h5 := h.2.2.2.2.2.1
  have h3 := h.2.2.2.1
  have k0 := jk_X_h h h4.1
  have k1 := jk_X_h h (i := σ 34 0 + 1) (by omega)
  refine jw_T_mono (jk_readNumber (jk_to_34 n) h.2.2.1 (by unfold jw_rg; omega) (by omega)) (Nat.le_refl _) ?_
  rw [h3]
  rintro r σ' ⟨v, hr, ⟨hc, hv, hs⟩ | ⟨hc, hc2, hv, hs⟩ | ⟨hc, hc2, hv, hs⟩⟩
  · rw [jk_n2_a hc, hs]
    exact ⟨v, hr, by omega, jk_E_fl h (by omega) (by omega), fun hz => ⟨jk_fl_eq 1 _ hz, fun hh => by simp only at hh; omega⟩⟩
  · rw [jk_n2_b hc hc2, hs]
    unfold jk_dg at hc
    exact ⟨v, hr, by omega, jk_E_at h (k0.2.2 (by omega)), fun hz => ⟨(jw_up_ne _ (by omega)).trans hz, fun _ => ⟨hv, jw_up_eq _ _ _ _⟩⟩⟩
  · rw [jk_n2_c hc hc2]
    unfold jk_dg at hc hc2
    have hE1 := jk_E_at h (k0.2.2 (by omega))
    have hE2 := jk_E_at hE1.1 (by rw [jw_up_eq]; exact k1.2.2 (by omega))
    have es : jw_up (jw_up σ 34 0 (σ 34 0 + 1)) 34 0 (jw_up σ 34 0 (σ 34 0 + 1) 34 0 + 1) = σ' := by
      rw [hs, jk_uu, jw_up_eq]
      congr 1
      omega
    rw [es] at hE2
    exact ⟨v, hr, by omega, jk_E_tr hE1 hE2, fun hz => ⟨by rw [hs, jw_up_ne _ (by omega)]; exact hz, fun _ => ⟨hv, by rw [hs, jw_up_eq]⟩⟩⟩
theorem jk_readQX (h : jk_X n o b m σ) : jw_T (js_S n) 2 88 [.inr (.inr 33)] σ (fun r σ' => (∃ v, r = some (.inl v) ∧ v = 0 ∧ ¬ jk_let (jk_h b m (σ 34 0)) ∧ jk_E n o b m σ σ' ∧ (σ 34 2 = 0 → σ' 34 2 = -1000 * 1 - σ 34 0)) ∨ (∃ v, r = some (.inl v) ∧ v = jk_h b m (σ 34 0) - 120 ∧ jk_let (jk_h b m (σ 34 0)) ∧ σ o 0 ≤ v ∧ jk_E n o b m σ σ' ∧ (σ 34 2 = 0 → σ' 34 2 = -1000 * 7 - σ 34 0)) ∨ (∃ v, r = some (.inl v) ∧ v = jk_h b m (σ 34 0) - 120 ∧ jk_let (jk_h b m (σ 34 0)) ∧ v < σ o 0 ∧ jk_E n o b m σ σ' ∧ σ' 34 2 = σ 34 2 ∧ σ' 34 0 = σ 34 0 + 1)) := by
  have h6 := h.2.2.2.2.2.2.1
  have h4 := h.2.2.2.2.1
  have h5 := h.2.2.2.2.2.1
  have h3 := h.2.2.2.1
  have h7 := h.2.2.2.2.2.2.2.1
  have k0 := jk_X_h h h4.1
  refine jw_T_mono (jk_readQ h.1 h.2.1 h.2.2.1 (by unfold jw_rg; omega) (by omega)) (Nat.le_refl _) ?_
  rw [h3]
  rintro r σ' ⟨v, hr, ⟨hc, hv, hs⟩ | ⟨hc, hv, hq, hs⟩ | ⟨hc, hv, hq, hs⟩⟩
  · rw [hs]
    exact .inl ⟨v, hr, hv, hc, jk_E_fl h (by omega) (by omega), fun hz => jk_fl_eq 1 _ hz⟩
  · have hcl := hc
    unfold jk_let at hcl
    have hE1 := jk_E_fl (c := 7) (i := σ 34 0) h (by omega) (by omega)
    have e0 : jk_fl σ 34 7 (σ 34 0) 34 0 = σ 34 0 := jk_fl_ne _ _ _ _ (by omega)
    have hE2 := jk_E_at hE1.1 (by rw [e0]; exact k0.2.2 (by omega))
    rw [e0, ← hs] at hE2
    exact .inr (.inl ⟨v, hr, hv, hc, hq, jk_E_tr hE1 hE2, fun hz => by rw [hs, jw_up_ne _ (by omega)]; exact jk_fl_eq 7 _ hz⟩)
  · have hcl := hc
    unfold jk_let at hcl
    rw [hs]
    exact .inr (.inr ⟨v, hr, hv, hc, hq, jk_E_at h (k0.2.2 (by omega)), jw_up_ne _ (by omega), jw_up_eq _ _ _ _⟩)
theorem jk_readWordX (h : jk_X n o b m σ) : jw_T (js_S n) 6 82 [.inr (.inr 33)] σ (fun r σ' => r = some (.inl (jk_wk b (σ 34 0) (jk_we b m 300 (σ 34 0)))) ∧ σ' = jw_up σ 34 0 (jk_we b m 300 (σ 34 0))) := by
  have hx := h
  obtain ⟨hp, h1, h2, h3, h4, h5, h6, h7, h8, h9, h10, h11⟩ := hx
  rw [← h3]
  exact jk_readWord h11 h2 (by omega)
/-- the run of letters ends within the text -/
theorem jk_we_in (hb : ∀ i, m ≤ i → jk_h b m i = -1) : ∀ (f : Nat) {i : Int}, i ≤ m → i ≤ jk_we b m f i ∧ jk_we b m f i ≤ m
  | 0, i, hi => ⟨Int.le_refl _, hi⟩
  | f + 1, i, hi => by
    unfold jk_we
    split
    · rename_i hc
      have hl : i < m := Classical.byContradiction (fun w => by have := hb i (by omega); omega)
      have := jk_we_in hb f (i := i + 1) (by omega)
      omega
    · omega
theorem jk_h_out {i : Int} (h : m ≤ i) : jk_h b m i = -1 := if_neg (by omega)
theorem jk_E_w (h : jk_X n o b m σ) : jk_E n o b m σ (jw_up σ 34 0 (jk_we b m 300 (σ 34 0))) := by
  have hx := h
  obtain ⟨hp, h1, h2, h3, h4, h5, h6, h7, h8, h9, h10, h11⟩ := hx
  have hpo := hp.1
  have hw := jk_we_in (b := b) (m := m) (fun i hi => jk_h_out hi) 300 h4.2
  refine ⟨jk_X_of h (fun c c1 c2 _ => jw_up_out _ _ _ c2) (jw_up_ne _ (by omega)) (by rw [jw_up_ne _ (by omega)]; exact h10) (jw_up_ne _ (by omega)) (jw_up_ne _ (by omega)) (by rw [jw_up_eq]; omega) (by rw [jw_up_ne _ (by omega)]; exact h6) (by rw [jw_up_out _ _ _ (by omega)]; exact h7) (by rw [jw_up_out _ _ _ (by omega)]; exact h8) (by rw [jw_up_out _ _ _ (by omega)]; exact h9), ⟨fun c c1 c2 _ => jw_up_out _ _ _ c2, jw_up_ne _ (by omega), fun _ => jw_up_ne _ (by omega), by rw [jw_up_eq]; omega⟩, fun c hc => jw_up_out _ _ _ hc⟩
end JKX

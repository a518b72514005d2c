/-! ===== the law, the class: tests, conditions ===== -/
section JLA
variable {b : Int → Int} {m i : Int} {C T : Int → jl_R} {k : Nat}
theorem jl_cmp_1 (h : (jl_S b m k i).1 ≠ 0) : jl_cmp b m k i = ((jl_S b m k i).1, i, []) := if_pos h
theorem jl_cmp_2 (h : (jl_S b m k i).1 = 0) (h2 : jl_com (jk_h b m (jl_S b m k i).2.1) = 0) : jl_cmp b m k i = (-1000 * 1 - (jl_S b m k i).2.1, i, []) := by
  unfold jl_cmp
  rw [if_neg (not_not_intro h), if_pos h2]
theorem jl_cmp_3 (h : (jl_S b m k i).1 = 0) (h2 : jl_com (jk_h b m (jl_S b m k i).2.1) ≠ 0) : jl_cmp b m k i = ((jl_S b m k ((jl_S b m k i).2.1 + 1)).1, (jl_S b m k ((jl_S b m k i).2.1 + 1)).2.1, (jl_S b m k i).2.2 ++ (jl_S b m k ((jl_S b m k i).2.1 + 1)).2.2 ++ [(jl_com (jk_h b m (jl_S b m k i).2.1), 0)]) := by
  unfold jl_cmp
  rw [if_neg (not_not_intro h), if_neg h2]
theorem jl_tst_n0 (h : jk_h b m i = 33) (hk : k = 0) : jl_tst b m C T k i = (-1000 * 5 - i, i, []) := by
  unfold jl_tst
  rw [if_pos h, if_pos hk]
theorem jl_tst_n (h : jk_h b m i = 33) (hk : k ≠ 0) : jl_tst b m C T k i = ((T (i + 1)).1, (T (i + 1)).2.1, (T (i + 1)).2.2 ++ [(10, 0)]) := by
  unfold jl_tst
  rw [if_pos h, if_neg hk]
theorem jl_tst_p0 (h : jk_h b m i = 40) (hk : k = 0) : jl_tst b m C T k i = (-1000 * 5 - i, i, []) := by
  unfold jl_tst
  rw [if_neg (by omega), if_pos h, if_pos hk]
theorem jl_tst_p1 (h : jk_h b m i = 40) (hk : k ≠ 0) (hC : (C (i + 1)).1 ≠ 0) : jl_tst b m C T k i = ((C (i + 1)).1, i, []) := by
  unfold jl_tst
  rw [if_neg (by omega), if_pos h, if_neg hk, if_pos hC]
theorem jl_tst_p2 (h : jk_h b m i = 40) (hk : k ≠ 0) (hC : (C (i + 1)).1 = 0) (hc : jk_h b m (C (i + 1)).2.1 = 41) : jl_tst b m C T k i = (0, (C (i + 1)).2.1 + 1, (C (i + 1)).2.2) := by
  unfold jl_tst
  rw [if_neg (by omega), if_pos h, if_neg hk, if_neg (not_not_intro hC), if_pos hc]
theorem jl_tst_p3 (h : jk_h b m i = 40) (hk : k ≠ 0) (hC : (C (i + 1)).1 = 0) (hc : jk_h b m (C (i + 1)).2.1 ≠ 41) : jl_tst b m C T k i = (-1000 * 1 - (C (i + 1)).2.1, i, []) := by
  unfold jl_tst
  rw [if_neg (by omega), if_pos h, if_neg hk, if_neg (not_not_intro hC), if_neg hc]
theorem jl_tst_c (h : jk_h b m i ≠ 33) (h2 : jk_h b m i ≠ 40) : jl_tst b m C T k i = jl_cmp b m k i := by
  unfold jl_tst
  rw [if_neg h, if_neg h2]
theorem jl_com_60 {x : Int} (h : x = 60) : jl_com x = 7 := by rw [h]; rfl
theorem jl_com_62 {x : Int} (h : x = 62) : jl_com x = 8 := by rw [h]; rfl
theorem jl_com_61 {x : Int} (h : x = 61) : jl_com x = 9 := by rw [h]; rfl
theorem jl_com_no {x : Int} (h : x ≠ 60) (h2 : x ≠ 62) (h3 : x ≠ 61) : jl_com x = 0 := by
  unfold jl_com
  rw [if_neg h, if_neg h2, if_neg h3]
theorem jl_com_h {x : Int} (h : jl_com x ≠ 0) : x = 60 ∨ x = 62 ∨ x = 61 := Classical.byContradiction (fun w => h (jl_com_no (by omega) (by omega) (by omega)))
theorem jl_ok_cmp (i0 : 0 ≤ i) : jl_ok m i (jl_cmp b m k i) := by
  intro h
  by_cases h1 : (jl_S b m k i).1 = 0
  · have g1 := jl_ok_S k i0 h1
    by_cases h2 : jl_com (jk_h b m (jl_S b m k i).2.1) = 0
    · rw [jl_cmp_2 h1 h2] at h
      have h3 : -1000 * 1 - (jl_S b m k i).2.1 = 0 := h
      omega
    · rw [jl_cmp_3 h1 h2] at h ⊢
      have g2 := jl_ok_S (b := b) (m := m) k (i := (jl_S b m k i).2.1 + 1) (by omega) h
      show i < (jl_S b m k ((jl_S b m k i).2.1 + 1)).2.1 ∧ (jl_S b m k ((jl_S b m k i).2.1 + 1)).2.1 ≤ m
      omega
  · rw [jl_cmp_1 h1] at h
    exact absurd h h1
theorem jl_ok_tst (hC : ∀ i, 0 ≤ i → jl_ok m i (C i)) (hT : ∀ i, 0 ≤ i → jl_ok m i (T i)) (i0 : 0 ≤ i) : jl_ok m i (jl_tst b m C T k i) := by
  intro h
  by_cases h1 : jk_h b m i = 33
  · by_cases hk : k = 0
    · rw [jl_tst_n0 h1 hk] at h
      have h3 : -1000 * 5 - i = 0 := h
      omega
    · rw [jl_tst_n h1 hk] at h ⊢
      have g1 := hT (i + 1) (by omega) h
      show i < (T (i + 1)).2.1 ∧ (T (i + 1)).2.1 ≤ m
      omega
  · by_cases h2 : jk_h b m i = 40
    · by_cases hk : k = 0
      · rw [jl_tst_p0 h2 hk] at h
        have h3 : -1000 * 5 - i = 0 := h
        omega
      · by_cases hc : (C (i + 1)).1 = 0
        · have g1 := hC (i + 1) (by omega) hc
          by_cases h41 : jk_h b m (C (i + 1)).2.1 = 41
          · have hl := jk_h_lt (b := b) (m := m) (i := (C (i + 1)).2.1) (by omega)
            rw [jl_tst_p2 h2 hk hc h41]
            show i < (C (i + 1)).2.1 + 1 ∧ (C (i + 1)).2.1 + 1 ≤ m
            omega
          · rw [jl_tst_p3 h2 hk hc h41] at h
            have h3 : -1000 * 1 - (C (i + 1)).2.1 = 0 := h
            omega
        · rw [jl_tst_p1 h2 hk hc] at h
          exact absurd h hc
    · rw [jl_tst_c h1 h2] at h ⊢
      exact jl_ok_cmp i0 h
theorem jl_ok_ptl (hT : ∀ i, 0 ≤ i → jl_ok m i (T i)) (i0 : 0 ≤ i) : ∀ (f : Nat) {R : jl_R}, jl_ok m i R → jl_ok m i (jl_ptl b m T f R)
  | 0, R, h => h
  | f + 1, R, h => by
    unfold jl_ptl
    split
    · rename_i hc
      have hr := h hc.1
      refine jl_ok_ptl hT i0 f (fun hq => ?_)
      have := hT (R.2.1 + 1) (by omega) hq
      exact ⟨by show i < (T (R.2.1 + 1)).2.1; omega, this.2⟩
    · exact h
theorem jl_ok_prt (hT : ∀ i, 0 ≤ i → jl_ok m i (T i)) (i0 : 0 ≤ i) : jl_ok m i (jl_prt b m T i) := jl_ok_ptl hT i0 300 (hT i i0)
theorem jl_ok_cdl (hT : ∀ i, 0 ≤ i → jl_ok m i (T i)) (i0 : 0 ≤ i) : ∀ (f : Nat) {R : jl_R}, jl_ok m i R → jl_ok m i (jl_cdl b m T f R)
  | 0, R, h => h
  | f + 1, R, h => by
    unfold jl_cdl
    split
    · rename_i hc
      have hr := h hc.1
      refine jl_ok_cdl hT i0 f (fun hq => ?_)
      have := jl_ok_prt (b := b) hT (i := R.2.1 + 1) (by omega) hq
      exact ⟨by show i < (jl_prt b m T (R.2.1 + 1)).2.1; omega, this.2⟩
    · exact h
theorem jl_ok_cnd (hT : ∀ i, 0 ≤ i → jl_ok m i (T i)) (i0 : 0 ≤ i) : jl_ok m i (jl_cnd b m T i) := jl_ok_cdl hT i0 300 (jl_ok_prt hT i0)
theorem jl_ptl_no {R : jl_R} (h : ¬ (R.1 = 0 ∧ jk_h b m R.2.1 = 38)) : ∀ f, jl_ptl b m T f R = R
  | 0 => rfl
  | f + 1 => if_neg h
theorem jl_cdl_no {R : jl_R} (h : ¬ (R.1 = 0 ∧ jk_h b m R.2.1 = 124)) : ∀ f, jl_cdl b m T f R = R
  | 0 => rfl
  | f + 1 => if_neg h
end JLA
theorem jl_ok_T {b : Int → Int} {m : Int} : ∀ (k : Nat) {i : Int}, 0 ≤ i → jl_ok m i (jl_T b m k i)
  | 0, i, h => jl_ok_tst (fun i _ h => absurd h (by show (-1 : Int) ≠ 0; omega)) (fun i _ h => absurd h (by show (-1 : Int) ≠ 0; omega)) h
  | k + 1, i, h => jl_ok_tst (fun i h => jl_ok_cnd (fun i h => jl_ok_T k h) h) (fun i h => jl_ok_T k h) h
section JLB
variable {b : Int → Int} {m : Int} {e : Int → Int} {R X : jl_R} {a a2 v w u c : Int} {σ τ σ1 σ2 σ3 : jw_H} {k : Nat}
theorem jl_cmp_end (hv : jl_sw b m e jl_rgV (jl_S b m k (σ 43 0)) a v σ σ1) (hE : jl_E b m e σ1 σ2) (e22 : σ2 43 2 = σ1 43 2) (hw : jl_sw b m e jl_rgV (jl_S b m k (σ1 43 0 + 1)) a w σ2 σ3) (hc : jl_com (jk_h b m (σ1 43 0)) = c) (hc7 : 7 ≤ c ∧ c ≤ 9) (hb : u = 0 ∨ u = 1) (hu : u = jl_rk c v w) : jl_sw b m e jl_bV (jl_cmp b m k (σ 43 0)) a u σ σ3 := by
  by_cases hz : σ1 43 2 = 0
  · have hs := jl_step (u := u) hv hE e22 hw hz (by unfold jl_rgV jw_rg; omega) (c := (jl_S b m k (σ 43 0)).2.2 ++ (jl_S b m k (σ1 43 0 + 1)).2.2 ++ [(c, 0)]) (fun d1 d2 k1 k2 => by
      rw [hu]
      exact jl_val_bin k1 k2 (by omega) (by omega))
    have hs2 := jl_sw_ch (T := jl_cmp b m k (σ 43 0)) hs (fun h0 => by
      obtain ⟨f1, f2⟩ := hv.2.2.2.2 h0
      have hS : (jl_S b m k (σ 43 0)).1 = 0 := by omega
      have e0 := (f2 hS).1
      rw [e0] at hc
      rw [jl_cmp_3 hS (by rw [hc]; omega), e0, hc])
    exact ⟨hb, hs2.2⟩
  · have st := hw.2.2.1.2.2.1 (by rw [e22]; exact hz)
    refine ⟨hb, hw.2.1, jl_D_tr hv.2.2.1 (jl_D_tr hE.2.1 hw.2.2.1), fun h0 => (hw.2.2.2.1 h0).trans ((congrFun hE.2.2 9).trans (hv.2.2.2.1 h0)), fun h0 => ?_⟩
    obtain ⟨f1, f2⟩ := hv.2.2.2.2 h0
    rw [jl_cmp_1 (by rw [← f1]; exact hz)]
    exact ⟨by rw [st, e22, f1], fun hn => absurd (f1.trans hn) hz⟩
theorem jl_cmp_no (hv : jl_sw b m e jl_rgV (jl_S b m k (σ 43 0)) a v σ σ1) (hE : jl_E b m e σ1 σ2) (h2 : σ1 43 2 = 0 → σ2 43 2 = -1000 * 1 - σ1 43 0) (hc : jl_com (jk_h b m (σ1 43 0)) = 0) : jl_sw b m e jl_bV (jl_cmp b m k (σ 43 0)) a 0 σ σ2 := by
  refine ⟨.inl rfl, hE.1, jl_D_tr hv.2.2.1 hE.2.1, fun h0 => (congrFun hE.2.2 9).trans (hv.2.2.2.1 h0), fun h0 => ?_⟩
  obtain ⟨f1, f2⟩ := hv.2.2.2.2 h0
  by_cases hS : (jl_S b m k (σ 43 0)).1 = 0
  · have e0 := (f2 hS).1
    have h3 := h2 (by omega)
    have hp := hv.2.1.2.2.1
    rw [e0] at hc h3
    rw [jl_cmp_2 hS hc]
    exact ⟨h3, fun hn => absurd hn (by show -1000 * 1 - _ ≠ 0; omega)⟩
  · rw [jl_cmp_1 hS]
    exact ⟨by rw [hE.2.1.2.2.1 (by rw [f1]; exact hS), f1], fun hn => absurd hn hS⟩
theorem jl_stepA (hv : jl_sw b m e jl_bV R a v σ τ) (hE1 : jl_E b m e τ σ1) (e12 : σ1 43 2 = τ 43 2) (hw : jl_sw b m e jl_bV X a2 w σ1 σ2) (hz : τ 43 2 = 0) (ha2 : (a2 = 1 ∧ a = 1 ∧ v = 1) ∨ (a2 = 0 ∧ ¬ (a = 1 ∧ v = 1))) (hu : u = if v = 0 then 0 else w) : jl_sw b m e jl_bV (X.1, X.2.1, R.2.2 ++ (11, (X.2.2.length : Int)) :: X.2.2) a u σ σ2 := by
  obtain ⟨hwb, hX2, hD2, h20, h22⟩ := hw
  have hvb := hv.1
  unfold jl_bV at hvb hwb
  refine ⟨by rw [hu]; unfold jl_bV; split <;> omega, hX2, jl_D_tr hv.2.2.1 (jl_D_tr hE1.2.1 hD2), fun h0 => (h20 (by omega)).trans ((congrFun hE1.2.2 9).trans (hv.2.2.2.1 h0)), fun hz3 => ?_⟩
  obtain ⟨f1, f2⟩ := hv.2.2.2.2 hz3
  obtain ⟨k1, k2⟩ := h22 (e12.trans hz)
  refine ⟨k1, fun hX => ⟨(k2 hX).1, fun ha => ?_⟩⟩
  obtain ⟨d1, v1, v2⟩ := (f2 (by omega)).2 ha
  rw [hu]
  by_cases hv0 : v = 0
  · refine ⟨_, jl_val_and v1 (db := False) (fun h => absurd hv0 h), ?_⟩
    rw [h20 (by omega), congrFun hE1.2.2 9, v2]
    simp only [and_false, or_false]
  · obtain ⟨d2, w1, w2⟩ := (k2 hX).2 (by omega)
    refine ⟨_, jl_val_and v1 (fun _ => w1), ?_⟩
    rw [w2, congrFun hE1.2.2 9, v2, or_assoc]
    simp only [hv0, not_false_eq_true, true_and]
theorem jl_stepO (hv : jl_sw b m e jl_bV R a v σ τ) (hE1 : jl_E b m e τ σ1) (e12 : σ1 43 2 = τ 43 2) (hw : jl_sw b m e jl_bV X a2 w σ1 σ2) (hz : τ 43 2 = 0) (ha2 : (a2 = 1 ∧ a = 1 ∧ v = 0) ∨ (a2 = 0 ∧ ¬ (a = 1 ∧ v = 0))) (hu : u = if v = 1 then 1 else w) : jl_sw b m e jl_bV (X.1, X.2.1, R.2.2 ++ (12, (X.2.2.length : Int)) :: X.2.2) a u σ σ2 := by
  obtain ⟨hwb, hX2, hD2, h20, h22⟩ := hw
  have hvb := hv.1
  unfold jl_bV at hvb hwb
  refine ⟨by rw [hu]; unfold jl_bV; split <;> omega, hX2, jl_D_tr hv.2.2.1 (jl_D_tr hE1.2.1 hD2), fun h0 => (h20 (by omega)).trans ((congrFun hE1.2.2 9).trans (hv.2.2.2.1 h0)), fun hz3 => ?_⟩
  obtain ⟨f1, f2⟩ := hv.2.2.2.2 hz3
  obtain ⟨k1, k2⟩ := h22 (e12.trans hz)
  refine ⟨k1, fun hX => ⟨(k2 hX).1, fun ha => ?_⟩⟩
  obtain ⟨d1, v1, v2⟩ := (f2 (by omega)).2 ha
  rw [hu]
  by_cases hv0 : v = 1
  · refine ⟨_, jl_val_or v1 (db := False) (fun h => absurd hv0 h), ?_⟩
    rw [h20 (by omega), congrFun hE1.2.2 9, v2]
    simp only [and_false, or_false]
  · obtain ⟨d2, w1, w2⟩ := (k2 hX).2 (by omega)
    refine ⟨_, jl_val_or v1 (fun _ => w1), ?_⟩
    rw [w2, congrFun hE1.2.2 9, v2, or_assoc]
    simp only [hv0, not_false_eq_true, true_and]
end JLB
theorem jl_part_loop {n : Nat} {σ : jw_H} {b : Int → Int} {m : Int} {e : Int → Int} {T : Int → jl_R} (hT : ∀ i, 0 ≤ i → jl_ok m i (T i)) {D : Nat} {o a : Int} (hI : jl_ms n b m e jl_bV D 51 o (T)) (hD : 5 ≤ D) (ha : a = 0 ∨ a = 1) : ∀ (f : Nat) {R : jl_R} {τ : jw_H} {v : Int} {x4 : Option jw_V}, jl_sw b m e jl_bV R a v σ τ → jl_ok m (-1) R → (R.1 = 0 → m < R.2.1 + f) → jw_W (js_S n) D md_50 5 [some (.inr (.inr 42)), some (.inl o), some (.inl a), some (.inl v), x4] [] τ (fun r σ' => ∃ u, r = some (.inl u) ∧ jl_sw b m e jl_bV (jl_ptl b m T f R) a u σ σ')
  | f, R, τ, v, x4, hv, hok, hfu => by
    have hX := hv.2.1
    have h4 := hX.2.2.1
    have h5 := hX.2.2.2.1
    have h3 := hX.2.1
    have h6 := hX.2.2.2.2.1
    have hh := jl_X_h hX h4.1
    have hvb := hv.1
    unfold jl_bV at hvb
    have hN : ¬ (τ 43 0 < m) → jk_h b m (τ 43 0) = -1 := fun hh => jk_h_out (by omega)
    have stop : (τ 43 2 ≠ 0 ∨ ¬ (τ 43 0 < τ 43 1) ∨ ¬ (jk_h b m (τ 43 0) = 38)) → ∃ u, some (Sum.inl v : jw_V) = some (.inl u) ∧ jl_sw b m e jl_bV (jl_ptl b m T f R) a u σ τ := by
      intro hc
      refine ⟨v, rfl, jl_sw_ch hv (fun hz => ?_)⟩
      obtain ⟨f1, f2⟩ := hv.2.2.2.2 hz
      refine (jl_ptl_no (fun hq => ?_) f).symm
      have e0 := (f2 hq.1).1
      rw [← e0] at hq
      rcases hc with hc | hc | hc
      · omega
      · have h7 := hN (by omega)
        omega
      · exact hc hq.2
    have go : ∀ {τ' : jw_H} {w : Int} {y4 : Option jw_V}, jl_sw b m e jl_bV ((T (τ 43 0 + 1)).1, (T (τ 43 0 + 1)).2.1, R.2.2 ++ (11, ((T (τ 43 0 + 1)).2.2.length : Int)) :: (T (τ 43 0 + 1)).2.2) a w σ τ' → τ 43 2 = 0 → τ 43 0 < τ 43 1 → jk_h b m (τ 43 0) = 38 → jw_W (js_S n) D md_50 5 [some (.inr (.inr 42)), some (.inl o), some (.inl a), some (.inl w), y4] [] τ' (fun r σ' => ∃ u, r = some (.inl u) ∧ jl_sw b m e jl_bV (jl_ptl b m T f R) a u σ σ') := by
      intro τ' w y4 hs hz hlt hsg
      have hz3 : σ 43 2 = 0 := Classical.byContradiction (fun q => by have := hv.2.2.1.2.2.1 q; omega)
      obtain ⟨f1, f2⟩ := hv.2.2.2.2 hz3
      have hz1 : R.1 = 0 := by omega
      have e0 := (f2 hz1).1
      have hf2 := hfu hz1
      match f, hf2 with
      | 0, hf2 => omega
      | f + 1, hf2 =>
        have e1 : jl_ptl b m T (f + 1) R = jl_ptl b m T f ((T (R.2.1 + 1)).1, (T (R.2.1 + 1)).2.1, R.2.2 ++ (11, ((T (R.2.1 + 1)).2.2.length : Int)) :: (T (R.2.1 + 1)).2.2) := if_pos ⟨hz1, by rw [← e0]; exact hsg⟩
        rw [e1]
        rw [e0] at hs
        have hrk := hT (R.2.1 + 1) (by omega)
        refine jl_part_loop hT hI hD ha f hs (fun h => ?_) (fun h => ?_)
        · have := hrk h
          exact ⟨by show -1 < (T (R.2.1 + 1)).2.1; omega, this.2⟩
        · have := hrk h
          show m < (T (R.2.1 + 1)).2.1 + (f : Int)
          omega
    refine jw_W_n 1 (i' := 6) (ls' := [some (.inr (.inr 42)), some (.inl o), some (.inl a), some (.inl v), x4]) (st' := [.inr (.inr 42)]) rfl ?_
    refine jw_W_gf rfl rfl rfl ?_
    show jw_W (js_S n) _ md_50 7 [some (.inr (.inr 42)), some (.inl o), some (.inl a), some (.inl v), x4] [.inr (.inr 43)] τ _
    refine jw_W_gf rfl rfl rfl ?_
    show jw_W (js_S n) _ md_50 8 [some (.inr (.inr 42)), some (.inl o), some (.inl a), some (.inl v), x4] [.inl (τ 43 2)] τ _
    refine jw_W_if rfl (by unfold jw_rg; omega) (fun hc1 => ?_) (fun hc1 => ?_)
    · have hc1 : (τ 43 2) ≠ 0 := hc1
      refine jw_W_n 1 (i' := 49) (ls' := [some (.inr (.inr 42)), some (.inl o), some (.inl a), some (.inl v), x4]) (st' := [.inl v]) rfl ?_
      refine jw_W_ir rfl ?_
      exact stop (by omega)
    · have hc1 : (τ 43 2) = 0 := Classical.not_not.mp hc1
      refine jw_W_n 1 (i' := 10) (ls' := [some (.inr (.inr 42)), some (.inl o), some (.inl a), some (.inl v), x4]) (st' := [.inr (.inr 42)]) rfl ?_
      refine jw_W_gf rfl rfl rfl ?_
      show jw_W (js_S n) _ md_50 11 [some (.inr (.inr 42)), some (.inl o), some (.inl a), some (.inl v), x4] [.inr (.inr 43)] τ _
      refine jw_W_gf rfl rfl rfl ?_
      show jw_W (js_S n) _ md_50 12 [some (.inr (.inr 42)), some (.inl o), some (.inl a), some (.inl v), x4] [.inl (τ 43 0)] τ _
      refine jw_W_n 1 (i' := 13) (ls' := [some (.inr (.inr 42)), some (.inl o), some (.inl a), some (.inl v), x4]) (st' := [.inr (.inr 42), .inl (τ 43 0)]) rfl ?_
      refine jw_W_gf rfl rfl rfl ?_
      show jw_W (js_S n) _ md_50 14 [some (.inr (.inr 42)), some (.inl o), some (.inl a), some (.inl v), x4] [.inr (.inr 43), .inl (τ 43 0)] τ _
      refine jw_W_gf rfl rfl rfl ?_
      show jw_W (js_S n) _ md_50 15 [some (.inr (.inr 42)), some (.inl o), some (.inl a), some (.inl v), x4] [.inl (τ 43 1), .inl (τ 43 0)] τ _
      refine jw_W_ic rfl (by unfold jw_rg; omega) (by unfold jw_rg; omega) (fun hc2 => ?_) (fun hc2 => ?_)
      · have hc2 : (τ 43 0) ≥ (τ 43 1) := hc2
        refine jw_W_n 1 (i' := 49) (ls' := [some (.inr (.inr 42)), some (.inl o), some (.inl a), some (.inl v), x4]) (st' := [.inl v]) rfl ?_
        refine jw_W_ir rfl ?_
        exact stop (by omega)
      · have hc2 : ¬ ((τ 43 0) ≥ (τ 43 1)) := hc2
        refine jw_W_n 1 (i' := 17) (ls' := [some (.inr (.inr 42)), some (.inl o), some (.inl a), some (.inl v), x4]) (st' := [.inr (.inr 42)]) rfl ?_
        refine jw_W_gf rfl rfl rfl ?_
        show jw_W (js_S n) _ md_50 18 [some (.inr (.inr 42)), some (.inl o), some (.inl a), some (.inl v), x4] [.inr (.inr 43)] τ _
        refine jw_W_call (as := [.inr (.inr 43)]) (rest := []) rfl rfl rfl rfl (Nat.le_of_ble_eq_true rfl) (.inr rfl) (jl_here hX) (by omega) ?_ rfl
        rintro r1 σz ⟨rfl, hs⟩
        rw [hs]
        show jw_W (js_S n) _ md_50 19 [some (.inr (.inr 42)), some (.inl o), some (.inl a), some (.inl v), x4] [.inl (jk_h b m (τ 43 0))] τ _
        refine jw_W_n 1 (i' := 20) (ls' := [some (.inr (.inr 42)), some (.inl o), some (.inl a), some (.inl v), x4]) (st' := [.inl 38, .inl (jk_h b m (τ 43 0))]) rfl ?_
        refine jw_W_ic rfl (by unfold jw_rg; omega) (by unfold jw_rg; omega) (fun hc3 => ?_) (fun hc3 => ?_)
        · have hc3 : (jk_h b m (τ 43 0)) ≠ 38 := hc3
          refine jw_W_n 1 (i' := 49) (ls' := [some (.inr (.inr 42)), some (.inl o), some (.inl a), some (.inl v), x4]) (st' := [.inl v]) rfl ?_
          refine jw_W_ir rfl ?_
          exact stop (by omega)
        · have hc3 : (jk_h b m (τ 43 0)) = 38 := Classical.not_not.mp hc3
          refine jw_W_n 1 (i' := 22) (ls' := [some (.inr (.inr 42)), some (.inl o), some (.inl a), some (.inl v), x4]) (st' := [.inr (.inr 42)]) rfl ?_
          refine jw_W_gf rfl rfl rfl ?_
          show jw_W (js_S n) _ md_50 23 [some (.inr (.inr 42)), some (.inl o), some (.inl a), some (.inl v), x4] [.inr (.inr 43)] τ _
          refine jw_W_n 1 (i' := 24) (ls' := [some (.inr (.inr 42)), some (.inl o), some (.inl a), some (.inl v), x4]) (st' := [.inr (.inr 43), .inr (.inr 43)]) rfl ?_
          refine jw_W_gf rfl rfl rfl ?_
          show jw_W (js_S n) _ md_50 25 [some (.inr (.inr 42)), some (.inl o), some (.inl a), some (.inl v), x4] [.inl (τ 43 0), .inr (.inr 43)] τ _
          refine jw_W_n 2 (i' := 27) (ls' := [some (.inr (.inr 42)), some (.inl o), some (.inl a), some (.inl v), x4]) (st' := [.inl (τ 43 0 + 1), .inr (.inr 43)]) rfl ?_
          refine jw_W_pf (a := τ 43 0 + 1) rfl (by omega) rfl rfl rfl rfl rfl ?_
          obtain ⟨σ1, hs1⟩ : ∃ s : jw_H, s = jw_up τ 43 0 (τ 43 0 + 1) := ⟨_, rfl⟩
          show jw_W (js_S n) _ _ _ _ _ (jw_up τ 43 0 (τ 43 0 + 1)) _
          rw [← hs1]
          have hE1 : jl_E b m e τ σ1 := by rw [hs1]; exact jl_E_to hX (by have := hh.2.2 (by omega); omega)
          have e10 : σ1 43 0 = τ 43 0 + 1 := by rw [hs1, jw_up_eq]
          have e12 : σ1 43 2 = τ 43 2 := by rw [hs1, jw_up_ne _ (by omega)]
          have hz : τ 43 2 = 0 := by omega
          have hlt : τ 43 0 < τ 43 1 := by omega
          refine jw_W_n 3 (i' := 31) (ls' := [some (.inr (.inr 42)), some (.inl o), some (.inl a), some (.inl v), x4]) (st' := [.inl a, .inl o, .inr (.inr 42)]) rfl ?_
          refine jw_W_if rfl (by unfold jw_rg; omega) (fun hc4 => ?_) (fun hc4 => ?_)
          · have hc4 : a = 0 := hc4
            refine jw_W_n 1 (i' := 37) (ls' := [some (.inr (.inr 42)), some (.inl o), some (.inl a), some (.inl v), x4]) (st' := [.inl 0, .inl o, .inr (.inr 42)]) rfl ?_
            refine jw_W_call (as := [.inr (.inr 42), .inl o, .inl 0]) (rest := []) rfl rfl rfl rfl (Nat.le_of_ble_eq_true rfl) (.inr rfl) (hI σ1 0 hE1.1 (by omega)) (by omega) ?_ rfl
            rintro r1 σ2 ⟨w, rfl, hw⟩
            rename jw_H => σ2
            rw [e10] at hw
            have hw : jl_sw b m e jl_bV (T (τ 43 0 + 1)) 0 w σ1 σ2 := hw
            have hwb := hw.1
            unfold jl_bV at hwb
            show jw_W (js_S n) _ md_50 38 [some (.inr (.inr 42)), some (.inl o), some (.inl a), some (.inl v), x4] [.inl w] σ2 _
            refine jw_W_n 2 (i' := 40) (ls' := [some (.inr (.inr 42)), some (.inl o), some (.inl a), some (.inl v), some (.inl w)]) (st' := [.inl v]) rfl ?_
            refine jw_W_if rfl (by unfold jw_rg; omega) (fun hc5 => ?_) (fun hc5 => ?_)
            · have hc5 : v = 0 := hc5
              refine jw_W_n 3 (i' := 5) (ls' := [some (.inr (.inr 42)), some (.inl o), some (.inl a), some (.inl 0), some (.inl w)]) (st' := []) rfl ?_
              exact go (jl_stepA hv hE1 e12 hw hz (by omega) (by split <;> omega)) hz hlt (by omega)
            · have hc5 : ¬ (v = 0) := hc5
              refine jw_W_n 1 (i' := 42) (ls' := [some (.inr (.inr 42)), some (.inl o), some (.inl a), some (.inl v), some (.inl w)]) (st' := [.inl w]) rfl ?_
              refine jw_W_if rfl (by unfold jw_rg; omega) (fun hc6 => ?_) (fun hc6 => ?_)
              · have hc6 : w = 0 := hc6
                refine jw_W_n 3 (i' := 5) (ls' := [some (.inr (.inr 42)), some (.inl o), some (.inl a), some (.inl 0), some (.inl w)]) (st' := []) rfl ?_
                exact go (jl_stepA hv hE1 e12 hw hz (by omega) (by split <;> omega)) hz hlt (by omega)
              · have hc6 : ¬ (w = 0) := hc6
                refine jw_W_n 4 (i' := 5) (ls' := [some (.inr (.inr 42)), some (.inl o), some (.inl a), some (.inl 1), some (.inl w)]) (st' := []) rfl ?_
                exact go (jl_stepA hv hE1 e12 hw hz (by omega) (by split <;> omega)) hz hlt (by omega)
          · have hc4 : ¬ (a = 0) := hc4
            refine jw_W_n 1 (i' := 33) (ls' := [some (.inr (.inr 42)), some (.inl o), some (.inl a), some (.inl v), x4]) (st' := [.inl v, .inl o, .inr (.inr 42)]) rfl ?_
            refine jw_W_if rfl (by unfold jw_rg; omega) (fun hc7 => ?_) (fun hc7 => ?_)
            · have hc7 : v = 0 := hc7
              refine jw_W_n 1 (i' := 37) (ls' := [some (.inr (.inr 42)), some (.inl o), some (.inl a), some (.inl v), x4]) (st' := [.inl 0, .inl o, .inr (.inr 42)]) rfl ?_
              refine jw_W_call (as := [.inr (.inr 42), .inl o, .inl 0]) (rest := []) rfl rfl rfl rfl (Nat.le_of_ble_eq_true rfl) (.inr rfl) (hI σ1 0 hE1.1 (by omega)) (by omega) ?_ rfl
              rintro r1 σ2 ⟨w, rfl, hw⟩
              rename jw_H => σ2
              rw [e10] at hw
              have hw : jl_sw b m e jl_bV (T (τ 43 0 + 1)) 0 w σ1 σ2 := hw
              have hwb := hw.1
              unfold jl_bV at hwb
              show jw_W (js_S n) _ md_50 38 [some (.inr (.inr 42)), some (.inl o), some (.inl a), some (.inl v), x4] [.inl w] σ2 _
              refine jw_W_n 2 (i' := 40) (ls' := [some (.inr (.inr 42)), some (.inl o), some (.inl a), some (.inl v), some (.inl w)]) (st' := [.inl v]) rfl ?_
              refine jw_W_if rfl (by unfold jw_rg; omega) (fun hc8 => ?_) (fun hc8 => ?_)
              · have hc8 : v = 0 := hc8
                refine jw_W_n 3 (i' := 5) (ls' := [some (.inr (.inr 42)), some (.inl o), some (.inl a), some (.inl 0), some (.inl w)]) (st' := []) rfl ?_
                exact go (jl_stepA hv hE1 e12 hw hz (by omega) (by split <;> omega)) hz hlt (by omega)
              · have hc8 : ¬ (v = 0) := hc8
                refine jw_W_n 1 (i' := 42) (ls' := [some (.inr (.inr 42)), some (.inl o), some (.inl a), some (.inl v), some (.inl w)]) (st' := [.inl w]) rfl ?_
                refine jw_W_if rfl (by unfold jw_rg; omega) (fun hc9 => ?_) (fun hc9 => ?_)
                · have hc9 : w = 0 := hc9
                  refine jw_W_n 3 (i' := 5) (ls' := [some (.inr (.inr 42)), some (.inl o), some (.inl a), some (.inl 0), some (.inl w)]) (st' := []) rfl ?_
                  exact go (jl_stepA hv hE1 e12 hw hz (by omega) (by split <;> omega)) hz hlt (by omega)
                · have hc9 : ¬ (w = 0) := hc9
                  refine jw_W_n 4 (i' := 5) (ls' := [some (.inr (.inr 42)), some (.inl o), some (.inl a), some (.inl 1), some (.inl w)]) (st' := []) rfl ?_
                  exact go (jl_stepA hv hE1 e12 hw hz (by omega) (by split <;> omega)) hz hlt (by omega)
            · have hc7 : ¬ (v = 0) := hc7
              refine jw_W_n 2 (i' := 37) (ls' := [some (.inr (.inr 42)), some (.inl o), some (.inl a), some (.inl v), x4]) (st' := [.inl 1, .inl o, .inr (.inr 42)]) rfl ?_
              refine jw_W_call (as := [.inr (.inr 42), .inl o, .inl 1]) (rest := []) rfl rfl rfl rfl (Nat.le_of_ble_eq_true rfl) (.inr rfl) (hI σ1 1 hE1.1 (by omega)) (by omega) ?_ rfl
              rintro r1 σ2 ⟨w, rfl, hw⟩
              rename jw_H => σ2
              rw [e10] at hw
              have hw : jl_sw b m e jl_bV (T (τ 43 0 + 1)) 1 w σ1 σ2 := hw
              have hwb := hw.1
              unfold jl_bV at hwb
              show jw_W (js_S n) _ md_50 38 [some (.inr (.inr 42)), some (.inl o), some (.inl a), some (.inl v), x4] [.inl w] σ2 _
              refine jw_W_n 2 (i' := 40) (ls' := [some (.inr (.inr 42)), some (.inl o), some (.inl a), some (.inl v), some (.inl w)]) (st' := [.inl v]) rfl ?_
              refine jw_W_if rfl (by unfold jw_rg; omega) (fun hc10 => ?_) (fun hc10 => ?_)
              · have hc10 : v = 0 := hc10
                refine jw_W_n 3 (i' := 5) (ls' := [some (.inr (.inr 42)), some (.inl o), some (.inl a), some (.inl 0), some (.inl w)]) (st' := []) rfl ?_
                exact go (jl_stepA hv hE1 e12 hw hz (by omega) (by split <;> omega)) hz hlt (by omega)
              · have hc10 : ¬ (v = 0) := hc10
                refine jw_W_n 1 (i' := 42) (ls' := [some (.inr (.inr 42)), some (.inl o), some (.inl a), some (.inl v), some (.inl w)]) (st' := [.inl w]) rfl ?_
                refine jw_W_if rfl (by unfold jw_rg; omega) (fun hc11 => ?_) (fun hc11 => ?_)
                · have hc11 : w = 0 := hc11
                  refine jw_W_n 3 (i' := 5) (ls' := [some (.inr (.inr 42)), some (.inl o), some (.inl a), some (.inl 0), some (.inl w)]) (st' := []) rfl ?_
                  exact go (jl_stepA hv hE1 e12 hw hz (by omega) (by split <;> omega)) hz hlt (by omega)
                · have hc11 : ¬ (w = 0) := hc11
                  refine jw_W_n 4 (i' := 5) (ls' := [some (.inr (.inr 42)), some (.inl o), some (.inl a), some (.inl 1), some (.inl w)]) (st' := []) rfl ?_
                  exact go (jl_stepA hv hE1 e12 hw hz (by omega) (by split <;> omega)) hz hlt (by omega)
theorem jl_cond_loop {n : Nat} {σ : jw_H} {b : Int → Int} {m : Int} {e : Int → Int} {T : Int → jl_R} (hT : ∀ i, 0 ≤ i → jl_ok m i (T i)) {D : Nat} {o a : Int} (hI : jl_ms n b m e jl_bV D 50 o (jl_prt b m T)) (hD : 5 ≤ D) (ha : a = 0 ∨ a = 1) : ∀ (f : Nat) {R : jl_R} {τ : jw_H} {v : Int} {x4 : Option jw_V}, jl_sw b m e jl_bV R a v σ τ → jl_ok m (-1) R → (R.1 = 0 → m < R.2.1 + f) → jw_W (js_S n) D md_49 5 [some (.inr (.inr 42)), some (.inl o), some (.inl a), some (.inl v), x4] [] τ (fun r σ' => ∃ u, r = some (.inl u) ∧ jl_sw b m e jl_bV (jl_cdl b m T f R) a u σ σ')
  | f, R, τ, v, x4, hv, hok, hfu => by
    have hX := hv.2.1
    have h4 := hX.2.2.1
    have h5 := hX.2.2.2.1
    have h3 := hX.2.1
    have h6 := hX.2.2.2.2.1
    have hh := jl_X_h hX h4.1
    have hvb := hv.1
    unfold jl_bV at hvb
    have hN : ¬ (τ 43 0 < m) → jk_h b m (τ 43 0) = -1 := fun hh => jk_h_out (by omega)
    have stop : (τ 43 2 ≠ 0 ∨ ¬ (τ 43 0 < τ 43 1) ∨ ¬ (jk_h b m (τ 43 0) = 124)) → ∃ u, some (Sum.inl v : jw_V) = some (.inl u) ∧ jl_sw b m e jl_bV (jl_cdl b m T f R) a u σ τ := by
      intro hc
      refine ⟨v, rfl, jl_sw_ch hv (fun hz => ?_)⟩
      obtain ⟨f1, f2⟩ := hv.2.2.2.2 hz
      refine (jl_cdl_no (fun hq => ?_) f).symm
      have e0 := (f2 hq.1).1
      rw [← e0] at hq
      rcases hc with hc | hc | hc
      · omega
      · have h7 := hN (by omega)
        omega
      · exact hc hq.2
    have go : ∀ {τ' : jw_H} {w : Int} {y4 : Option jw_V}, jl_sw b m e jl_bV ((jl_prt b m T (τ 43 0 + 1)).1, (jl_prt b m T (τ 43 0 + 1)).2.1, R.2.2 ++ (12, ((jl_prt b m T (τ 43 0 + 1)).2.2.length : Int)) :: (jl_prt b m T (τ 43 0 + 1)).2.2) a w σ τ' → τ 43 2 = 0 → τ 43 0 < τ 43 1 → jk_h b m (τ 43 0) = 124 → jw_W (js_S n) D md_49 5 [some (.inr (.inr 42)), some (.inl o), some (.inl a), some (.inl w), y4] [] τ' (fun r σ' => ∃ u, r = some (.inl u) ∧ jl_sw b m e jl_bV (jl_cdl b m T f R) a u σ σ') := by
      intro τ' w y4 hs hz hlt hsg
      have hz3 : σ 43 2 = 0 := Classical.byContradiction (fun q => by have := hv.2.2.1.2.2.1 q; omega)
      obtain ⟨f1, f2⟩ := hv.2.2.2.2 hz3
      have hz1 : R.1 = 0 := by omega
      have e0 := (f2 hz1).1
      have hf2 := hfu hz1
      match f, hf2 with
      | 0, hf2 => omega
      | f + 1, hf2 =>
        have e1 : jl_cdl b m T (f + 1) R = jl_cdl b m T f ((jl_prt b m T (R.2.1 + 1)).1, (jl_prt b m T (R.2.1 + 1)).2.1, R.2.2 ++ (12, ((jl_prt b m T (R.2.1 + 1)).2.2.length : Int)) :: (jl_prt b m T (R.2.1 + 1)).2.2) := if_pos ⟨hz1, by rw [← e0]; exact hsg⟩
        rw [e1]
        rw [e0] at hs
        have hrk := jl_ok_prt (b := b) hT (i := R.2.1 + 1) (by omega)
        refine jl_cond_loop hT hI hD ha f hs (fun h => ?_) (fun h => ?_)
        · have := hrk h
          exact ⟨by show -1 < (jl_prt b m T (R.2.1 + 1)).2.1; omega, this.2⟩
        · have := hrk h
          show m < (jl_prt b m T (R.2.1 + 1)).2.1 + (f : Int)
          omega
    refine jw_W_n 1 (i' := 6) (ls' := [some (.inr (.inr 42)), some (.inl o), some (.inl a), some (.inl v), x4]) (st' := [.inr (.inr 42)]) rfl ?_
    refine jw_W_gf rfl rfl rfl ?_
    show jw_W (js_S n) _ md_49 7 [some (.inr (.inr 42)), some (.inl o), some (.inl a), some (.inl v), x4] [.inr (.inr 43)] τ _
    refine jw_W_gf rfl rfl rfl ?_
    show jw_W (js_S n) _ md_49 8 [some (.inr (.inr 42)), some (.inl o), some (.inl a), some (.inl v), x4] [.inl (τ 43 2)] τ _
    refine jw_W_if rfl (by unfold jw_rg; omega) (fun hc1 => ?_) (fun hc1 => ?_)
    · have hc1 : (τ 43 2) ≠ 0 := hc1
      refine jw_W_n 1 (i' := 49) (ls' := [some (.inr (.inr 42)), some (.inl o), some (.inl a), some (.inl v), x4]) (st' := [.inl v]) rfl ?_
      refine jw_W_ir rfl ?_
      exact stop (by omega)
    · have hc1 : (τ 43 2) = 0 := Classical.not_not.mp hc1
      refine jw_W_n 1 (i' := 10) (ls' := [some (.inr (.inr 42)), some (.inl o), some (.inl a), some (.inl v), x4]) (st' := [.inr (.inr 42)]) rfl ?_
      refine jw_W_gf rfl rfl rfl ?_
      show jw_W (js_S n) _ md_49 11 [some (.inr (.inr 42)), some (.inl o), some (.inl a), some (.inl v), x4] [.inr (.inr 43)] τ _
      refine jw_W_gf rfl rfl rfl ?_
      show jw_W (js_S n) _ md_49 12 [some (.inr (.inr 42)), some (.inl o), some (.inl a), some (.inl v), x4] [.inl (τ 43 0)] τ _
      refine jw_W_n 1 (i' := 13) (ls' := [some (.inr (.inr 42)), some (.inl o), some (.inl a), some (.inl v), x4]) (st' := [.inr (.inr 42), .inl (τ 43 0)]) rfl ?_
      refine jw_W_gf rfl rfl rfl ?_
      show jw_W (js_S n) _ md_49 14 [some (.inr (.inr 42)), some (.inl o), some (.inl a), some (.inl v), x4] [.inr (.inr 43), .inl (τ 43 0)] τ _
      refine jw_W_gf rfl rfl rfl ?_
      show jw_W (js_S n) _ md_49 15 [some (.inr (.inr 42)), some (.inl o), some (.inl a), some (.inl v), x4] [.inl (τ 43 1), .inl (τ 43 0)] τ _
      refine jw_W_ic rfl (by unfold jw_rg; omega) (by unfold jw_rg; omega) (fun hc2 => ?_) (fun hc2 => ?_)
      · have hc2 : (τ 43 0) ≥ (τ 43 1) := hc2
        refine jw_W_n 1 (i' := 49) (ls' := [some (.inr (.inr 42)), some (.inl o), some (.inl a), some (.inl v), x4]) (st' := [.inl v]) rfl ?_
        refine jw_W_ir rfl ?_
        exact stop (by omega)
      · have hc2 : ¬ ((τ 43 0) ≥ (τ 43 1)) := hc2
        refine jw_W_n 1 (i' := 17) (ls' := [some (.inr (.inr 42)), some (.inl o), some (.inl a), some (.inl v), x4]) (st' := [.inr (.inr 42)]) rfl ?_
        refine jw_W_gf rfl rfl rfl ?_
        show jw_W (js_S n) _ md_49 18 [some (.inr (.inr 42)), some (.inl o), some (.inl a), some (.inl v), x4] [.inr (.inr 43)] τ _
        refine jw_W_call (as := [.inr (.inr 43)]) (rest := []) rfl rfl rfl rfl (Nat.le_of_ble_eq_true rfl) (.inr rfl) (jl_here hX) (by omega) ?_ rfl
        rintro r1 σz ⟨rfl, hs⟩
        rw [hs]
        show jw_W (js_S n) _ md_49 19 [some (.inr (.inr 42)), some (.inl o), some (.inl a), some (.inl v), x4] [.inl (jk_h b m (τ 43 0))] τ _
        refine jw_W_n 1 (i' := 20) (ls' := [some (.inr (.inr 42)), some (.inl o), some (.inl a), some (.inl v), x4]) (st' := [.inl 124, .inl (jk_h b m (τ 43 0))]) rfl ?_
        refine jw_W_ic rfl (by unfold jw_rg; omega) (by unfold jw_rg; omega) (fun hc3 => ?_) (fun hc3 => ?_)
        · have hc3 : (jk_h b m (τ 43 0)) ≠ 124 := hc3
          refine jw_W_n 1 (i' := 49) (ls' := [some (.inr (.inr 42)), some (.inl o), some (.inl a), some (.inl v), x4]) (st' := [.inl v]) rfl ?_
          refine jw_W_ir rfl ?_
          exact stop (by omega)
        · have hc3 : (jk_h b m (τ 43 0)) = 124 := Classical.not_not.mp hc3
          refine jw_W_n 1 (i' := 22) (ls' := [some (.inr (.inr 42)), some (.inl o), some (.inl a), some (.inl v), x4]) (st' := [.inr (.inr 42)]) rfl ?_
          refine jw_W_gf rfl rfl rfl ?_
          show jw_W (js_S n) _ md_49 23 [some (.inr (.inr 42)), some (.inl o), some (.inl a), some (.inl v), x4] [.inr (.inr 43)] τ _
          refine jw_W_n 1 (i' := 24) (ls' := [some (.inr (.inr 42)), some (.inl o), some (.inl a), some (.inl v), x4]) (st' := [.inr (.inr 43), .inr (.inr 43)]) rfl ?_
          refine jw_W_gf rfl rfl rfl ?_
          show jw_W (js_S n) _ md_49 25 [some (.inr (.inr 42)), some (.inl o), some (.inl a), some (.inl v), x4] [.inl (τ 43 0), .inr (.inr 43)] τ _
          refine jw_W_n 2 (i' := 27) (ls' := [some (.inr (.inr 42)), some (.inl o), some (.inl a), some (.inl v), x4]) (st' := [.inl (τ 43 0 + 1), .inr (.inr 43)]) rfl ?_
          refine jw_W_pf (a := τ 43 0 + 1) rfl (by omega) rfl rfl rfl rfl rfl ?_
          obtain ⟨σ1, hs1⟩ : ∃ s : jw_H, s = jw_up τ 43 0 (τ 43 0 + 1) := ⟨_, rfl⟩
          show jw_W (js_S n) _ _ _ _ _ (jw_up τ 43 0 (τ 43 0 + 1)) _
          rw [← hs1]
          have hE1 : jl_E b m e τ σ1 := by rw [hs1]; exact jl_E_to hX (by have := hh.2.2 (by omega); omega)
          have e10 : σ1 43 0 = τ 43 0 + 1 := by rw [hs1, jw_up_eq]
          have e12 : σ1 43 2 = τ 43 2 := by rw [hs1, jw_up_ne _ (by omega)]
          have hz : τ 43 2 = 0 := by omega
          have hlt : τ 43 0 < τ 43 1 := by omega
          refine jw_W_n 3 (i' := 31) (ls' := [some (.inr (.inr 42)), some (.inl o), some (.inl a), some (.inl v), x4]) (st' := [.inl a, .inl o, .inr (.inr 42)]) rfl ?_
          refine jw_W_if rfl (by unfold jw_rg; omega) (fun hc4 => ?_) (fun hc4 => ?_)
          · have hc4 : a = 0 := hc4
            refine jw_W_n 1 (i' := 37) (ls' := [some (.inr (.inr 42)), some (.inl o), some (.inl a), some (.inl v), x4]) (st' := [.inl 0, .inl o, .inr (.inr 42)]) rfl ?_
            refine jw_W_call (as := [.inr (.inr 42), .inl o, .inl 0]) (rest := []) rfl rfl rfl rfl (Nat.le_of_ble_eq_true rfl) (.inr rfl) (hI σ1 0 hE1.1 (by omega)) (by omega) ?_ rfl
            rintro r1 σ2 ⟨w, rfl, hw⟩
            rename jw_H => σ2
            rw [e10] at hw
            have hw : jl_sw b m e jl_bV (jl_prt b m T (τ 43 0 + 1)) 0 w σ1 σ2 := hw
            have hwb := hw.1
            unfold jl_bV at hwb
            show jw_W (js_S n) _ md_49 38 [some (.inr (.inr 42)), some (.inl o), some (.inl a), some (.inl v), x4] [.inl w] σ2 _
            refine jw_W_n 2 (i' := 40) (ls' := [some (.inr (.inr 42)), some (.inl o), some (.inl a), some (.inl v), some (.inl w)]) (st' := [.inl v]) rfl ?_
            refine jw_W_if rfl (by unfold jw_rg; omega) (fun hc5 => ?_) (fun hc5 => ?_)
            · have hc5 : v ≠ 0 := hc5
              refine jw_W_n 4 (i' := 5) (ls' := [some (.inr (.inr 42)), some (.inl o), some (.inl a), some (.inl 1), some (.inl w)]) (st' := []) rfl ?_
              exact go (jl_stepO hv hE1 e12 hw hz (by omega) (by split <;> omega)) hz hlt (by omega)
            · have hc5 : v = 0 := Classical.not_not.mp hc5
              refine jw_W_n 1 (i' := 42) (ls' := [some (.inr (.inr 42)), some (.inl o), some (.inl a), some (.inl v), some (.inl w)]) (st' := [.inl w]) rfl ?_
              refine jw_W_if rfl (by unfold jw_rg; omega) (fun hc6 => ?_) (fun hc6 => ?_)
              · have hc6 : w = 0 := hc6
                refine jw_W_n 3 (i' := 5) (ls' := [some (.inr (.inr 42)), some (.inl o), some (.inl a), some (.inl 0), some (.inl w)]) (st' := []) rfl ?_
                exact go (jl_stepO hv hE1 e12 hw hz (by omega) (by split <;> omega)) hz hlt (by omega)
              · have hc6 : ¬ (w = 0) := hc6
                refine jw_W_n 4 (i' := 5) (ls' := [some (.inr (.inr 42)), some (.inl o), some (.inl a), some (.inl 1), some (.inl w)]) (st' := []) rfl ?_
                exact go (jl_stepO hv hE1 e12 hw hz (by omega) (by split <;> omega)) hz hlt (by omega)
          · have hc4 : ¬ (a = 0) := hc4
            refine jw_W_n 1 (i' := 33) (ls' := [some (.inr (.inr 42)), some (.inl o), some (.inl a), some (.inl v), x4]) (st' := [.inl v, .inl o, .inr (.inr 42)]) rfl ?_
            refine jw_W_if rfl (by unfold jw_rg; omega) (fun hc7 => ?_) (fun hc7 => ?_)
            · have hc7 : v ≠ 0 := hc7
              refine jw_W_n 1 (i' := 37) (ls' := [some (.inr (.inr 42)), some (.inl o), some (.inl a), some (.inl v), x4]) (st' := [.inl 0, .inl o, .inr (.inr 42)]) rfl ?_
              refine jw_W_call (as := [.inr (.inr 42), .inl o, .inl 0]) (rest := []) rfl rfl rfl rfl (Nat.le_of_ble_eq_true rfl) (.inr rfl) (hI σ1 0 hE1.1 (by omega)) (by omega) ?_ rfl
              rintro r1 σ2 ⟨w, rfl, hw⟩
              rename jw_H => σ2
              rw [e10] at hw
              have hw : jl_sw b m e jl_bV (jl_prt b m T (τ 43 0 + 1)) 0 w σ1 σ2 := hw
              have hwb := hw.1
              unfold jl_bV at hwb
              show jw_W (js_S n) _ md_49 38 [some (.inr (.inr 42)), some (.inl o), some (.inl a), some (.inl v), x4] [.inl w] σ2 _
              refine jw_W_n 2 (i' := 40) (ls' := [some (.inr (.inr 42)), some (.inl o), some (.inl a), some (.inl v), some (.inl w)]) (st' := [.inl v]) rfl ?_
              refine jw_W_if rfl (by unfold jw_rg; omega) (fun hc8 => ?_) (fun hc8 => ?_)
              · have hc8 : v ≠ 0 := hc8
                refine jw_W_n 4 (i' := 5) (ls' := [some (.inr (.inr 42)), some (.inl o), some (.inl a), some (.inl 1), some (.inl w)]) (st' := []) rfl ?_
                exact go (jl_stepO hv hE1 e12 hw hz (by omega) (by split <;> omega)) hz hlt (by omega)
              · have hc8 : v = 0 := Classical.not_not.mp hc8
                refine jw_W_n 1 (i' := 42) (ls' := [some (.inr (.inr 42)), some (.inl o), some (.inl a), some (.inl v), some (.inl w)]) (st' := [.inl w]) rfl ?_
                refine jw_W_if rfl (by unfold jw_rg; omega) (fun hc9 => ?_) (fun hc9 => ?_)
                · have hc9 : w = 0 := hc9
                  refine jw_W_n 3 (i' := 5) (ls' := [some (.inr (.inr 42)), some (.inl o), some (.inl a), some (.inl 0), some (.inl w)]) (st' := []) rfl ?_
                  exact go (jl_stepO hv hE1 e12 hw hz (by omega) (by split <;> omega)) hz hlt (by omega)
                · have hc9 : ¬ (w = 0) := hc9
                  refine jw_W_n 4 (i' := 5) (ls' := [some (.inr (.inr 42)), some (.inl o), some (.inl a), some (.inl 1), some (.inl w)]) (st' := []) rfl ?_
                  exact go (jl_stepO hv hE1 e12 hw hz (by omega) (by split <;> omega)) hz hlt (by omega)
            · have hc7 : v = 0 := Classical.not_not.mp hc7
              refine jw_W_n 2 (i' := 37) (ls' := [some (.inr (.inr 42)), some (.inl o), some (.inl a), some (.inl v), x4]) (st' := [.inl 1, .inl o, .inr (.inr 42)]) rfl ?_
              refine jw_W_call (as := [.inr (.inr 42), .inl o, .inl 1]) (rest := []) rfl rfl rfl rfl (Nat.le_of_ble_eq_true rfl) (.inr rfl) (hI σ1 1 hE1.1 (by omega)) (by omega) ?_ rfl
              rintro r1 σ2 ⟨w, rfl, hw⟩
              rename jw_H => σ2
              rw [e10] at hw
              have hw : jl_sw b m e jl_bV (jl_prt b m T (τ 43 0 + 1)) 1 w σ1 σ2 := hw
              have hwb := hw.1
              unfold jl_bV at hwb
              show jw_W (js_S n) _ md_49 38 [some (.inr (.inr 42)), some (.inl o), some (.inl a), some (.inl v), x4] [.inl w] σ2 _
              refine jw_W_n 2 (i' := 40) (ls' := [some (.inr (.inr 42)), some (.inl o), some (.inl a), some (.inl v), some (.inl w)]) (st' := [.inl v]) rfl ?_
              refine jw_W_if rfl (by unfold jw_rg; omega) (fun hc10 => ?_) (fun hc10 => ?_)
              · have hc10 : v ≠ 0 := hc10
                refine jw_W_n 4 (i' := 5) (ls' := [some (.inr (.inr 42)), some (.inl o), some (.inl a), some (.inl 1), some (.inl w)]) (st' := []) rfl ?_
                exact go (jl_stepO hv hE1 e12 hw hz (by omega) (by split <;> omega)) hz hlt (by omega)
              · have hc10 : v = 0 := Classical.not_not.mp hc10
                refine jw_W_n 1 (i' := 42) (ls' := [some (.inr (.inr 42)), some (.inl o), some (.inl a), some (.inl v), some (.inl w)]) (st' := [.inl w]) rfl ?_
                refine jw_W_if rfl (by unfold jw_rg; omega) (fun hc11 => ?_) (fun hc11 => ?_)
                · have hc11 : w = 0 := hc11
                  refine jw_W_n 3 (i' := 5) (ls' := [some (.inr (.inr 42)), some (.inl o), some (.inl a), some (.inl 0), some (.inl w)]) (st' := []) rfl ?_
                  exact go (jl_stepO hv hE1 e12 hw hz (by omega) (by split <;> omega)) hz hlt (by omega)
                · have hc11 : ¬ (w = 0) := hc11
                  refine jw_W_n 4 (i' := 5) (ls' := [some (.inr (.inr 42)), some (.inl o), some (.inl a), some (.inl 1), some (.inl w)]) (st' := []) rfl ?_
                  exact go (jl_stepO hv hE1 e12 hw hz (by omega) (by split <;> omega)) hz hlt (by omega)
theorem jl_partc {n : Nat} {b : Int → Int} {m : Int} {e : Int → Int} {T : Int → jl_R} (hT : ∀ i, 0 ≤ i → jl_ok m i (T i)) {D : Nat} {o : Int} (hI : jl_ms n b m e jl_bV D 51 o (T)) (hD : 5 ≤ D) : jl_ms n b m e jl_bV (D + 1) 50 o (jl_prt b m T) := by
  intro σ a hX ha
  have h4 := hX.2.2.1
  have h5 := hX.2.2.2.1
  refine jw_T_of (D := D) (M := mm_50) rfl (Nat.le_of_ble_eq_true rfl) (ls0 := [some (.inr (.inr 42)), some (.inl o), some (.inl a), none, none]) rfl ?_ (by rintro _ _ ⟨_, rfl, rfl | rfl, -⟩ <;> rfl)
  refine jw_W_n 3 (i' := 3) (ls' := [some (.inr (.inr 42)), some (.inl o), some (.inl a), none, none]) (st' := [.inl a, .inl o, .inr (.inr 42)]) rfl ?_
  refine jw_W_call (as := [.inr (.inr 42), .inl o, .inl a]) (rest := []) rfl rfl rfl rfl (Nat.le_of_ble_eq_true rfl) (.inr rfl) (hI σ a hX ha) (by omega) ?_ rfl
  rintro r1 σ2 ⟨w, rfl, hw⟩
  rename jw_H => σ2
  have hw : jl_sw b m e jl_bV (T (σ 43 0)) a w σ σ2 := hw
  show jw_W (js_S n) _ md_50 4 [some (.inr (.inr 42)), some (.inl o), some (.inl a), none, none] [.inl w] σ2 _
  refine jw_W_n 1 (i' := 5) (ls' := [some (.inr (.inr 42)), some (.inl o), some (.inl a), some (.inl w), none]) (st' := []) rfl ?_
  have hrk := hT (σ 43 0) (by omega)
  exact jl_part_loop hT hI hD ha 300 hw (fun h => by have := hrk h; exact ⟨by omega, this.2⟩) (fun h => by have := hrk h; omega)
theorem jl_condc {n : Nat} {b : Int → Int} {m : Int} {e : Int → Int} {T : Int → jl_R} (hT : ∀ i, 0 ≤ i → jl_ok m i (T i)) {D : Nat} {o : Int} (hI : jl_ms n b m e jl_bV D 50 o (jl_prt b m T)) (hD : 5 ≤ D) : jl_ms n b m e jl_bV (D + 1) 49 o (jl_cnd b m T) := by
  intro σ a hX ha
  have h4 := hX.2.2.1
  have h5 := hX.2.2.2.1
  refine jw_T_of (D := D) (M := mm_49) rfl (Nat.le_of_ble_eq_true rfl) (ls0 := [some (.inr (.inr 42)), some (.inl o), some (.inl a), none, none]) rfl ?_ (by rintro _ _ ⟨_, rfl, rfl | rfl, -⟩ <;> rfl)
  refine jw_W_n 3 (i' := 3) (ls' := [some (.inr (.inr 42)), some (.inl o), some (.inl a), none, none]) (st' := [.inl a, .inl o, .inr (.inr 42)]) rfl ?_
  refine jw_W_call (as := [.inr (.inr 42), .inl o, .inl a]) (rest := []) rfl rfl rfl rfl (Nat.le_of_ble_eq_true rfl) (.inr rfl) (hI σ a hX ha) (by omega) ?_ rfl
  rintro r1 σ2 ⟨w, rfl, hw⟩
  rename jw_H => σ2
  have hw : jl_sw b m e jl_bV (jl_prt b m T (σ 43 0)) a w σ σ2 := hw
  show jw_W (js_S n) _ md_49 4 [some (.inr (.inr 42)), some (.inl o), some (.inl a), none, none] [.inl w] σ2 _
  refine jw_W_n 1 (i' := 5) (ls' := [some (.inr (.inr 42)), some (.inl o), some (.inl a), some (.inl w), none]) (st' := []) rfl ?_
  have hrk := jl_ok_prt (b := b) hT (i := σ 43 0) (by omega)
  exact jl_cond_loop hT hI hD ha 300 hw (fun h => by have := hrk h; exact ⟨by omega, this.2⟩) (fun h => by have := hrk h; omega)

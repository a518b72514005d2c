/-! ===== behind: the class ===== -/
theorem jn_dig {W m : Int} (h : jn_okW W m) : (W = 1 → 0 ≤ m % 10 ∧ m % 10 < 1) ∧ (W = 2 → (0 ≤ m / 10 % 10 ∧ m / 10 % 10 < 2) ∧ (0 ≤ m % 10 ∧ m % 10 < 2)) ∧ (W = 3 → (0 ≤ m / 100 % 10 ∧ m / 100 % 10 < 3) ∧ (0 ≤ m / 10 % 10 ∧ m / 10 % 10 < 3) ∧ (0 ≤ m % 10 ∧ m % 10 < 3)) := by
  unfold jn_okW at h
  refine ⟨fun e => ?_, fun e => ?_, fun e => ?_⟩ <;> omega
theorem jx_isAhead_1 {n : Nat} {σ : jw_H} {o : Nat} {C : List (ge_R × Int)} (hK : jx_K n o C σ) {i j : Int} (i0 : 0 ≤ i) (i1 : i < σ 103 56) (j0 : 0 ≤ j) (j1 : j < σ 103 56) (hW4 : σ 103 4 = 1) {m : Int} (hm : jn_okW 1 m) (hpl : jn_pls σ 1 m) : jw_T (js_S n) 4 131 [.inr (.inr 13), .inl i, .inl j] σ (fun r σ' => (r = some (.inl 1) ∧ σ' = σ ∧ (jn_ah σ [m % 10] i j)) ∨ (r = some (.inl 0) ∧ σ' = σ ∧ ¬ (jn_ah σ [m % 10] i j))) := by
  refine jw_T_of (D := 3) (M := mm_131) rfl (Nat.le_of_ble_eq_true rfl) (ls0 := [some (.inr (.inr 13)), some (.inl i), some (.inl j), none, none, none]) rfl ?_ (by rintro _ _ (⟨rfl, -⟩ | ⟨rfl, -⟩) <;> rfl)
  have hI := hK.1
  obtain ⟨hto, hfo, hp, hP, e0, e1, e2, hPm, hcb, c0, p0, -⟩ := jx_I0_x hI
  have ho := hp.1
  have hq := hP.1
  have hw := hP.2.1
  have hq2 := hP.2.2.1
  have hcn := hcb.1
  have hW : σ o 1 = 1 := by rw [e1, hW4]
  have hdg := jn_dig hm
  have hdg := hdg.1 rfl
  obtain ⟨-, hp0⟩ | ⟨hh, -⟩ | ⟨hh, -⟩ := hpl
  rotate_left
  · omega
  · omega
  refine jw_W_n 4 (i' := 4) (ls' := [some (.inr (.inr 13)), some (.inl i), some (.inl j), some (.inl 0), none, none]) (st' := [.inr (.inr 13), .inl 0]) rfl ?_
  refine jw_W_gf rfl rfl rfl ?_
  show jw_W (js_S n) _ md_131 5 [some (.inr (.inr 13)), some (.inl i), some (.inl j), some (.inl 0), none, none] [.inr (.inr ((σ 13 2).toNat)), .inl 0] σ _
  rw [hto]
  refine jw_W_gf rfl hp.2.1 rfl ?_
  show jw_W (js_S n) _ md_131 6 [some (.inr (.inr 13)), some (.inl i), some (.inl j), some (.inl 0), none, none] [.inl (σ o 1), .inl 0] σ _
  rw [hW]
  refine jw_W_ic rfl (by unfold jw_rg; omega) (by unfold jw_rg; omega) (fun hc1 => ?_) (fun hc1 => ?_)
  · exact absurd hc1 (show ¬ ((0 : Int) ≥ 1) by omega)
  · clear hc1
    refine jw_W_n 1 (i' := 8) (ls' := [some (.inr (.inr 13)), some (.inl i), some (.inl j), some (.inl 0), none, none]) (st' := [.inr (.inr 13)]) rfl ?_
    refine jw_W_gf rfl rfl rfl ?_
    show jw_W (js_S n) _ md_131 9 [some (.inr (.inr 13)), some (.inl i), some (.inl j), some (.inl 0), none, none] [.inr (.inr 57)] σ _
    refine jw_W_n 3 (i' := 12) (ls' := [some (.inr (.inr 13)), some (.inl i), some (.inl j), some (.inl 0), none, none]) (st' := [.inr (.inr 13), .inl j, .inl i, .inr (.inr 57)]) rfl ?_
    refine jw_W_gf rfl rfl rfl ?_
    show jw_W (js_S n) _ md_131 13 [some (.inr (.inr 13)), some (.inl i), some (.inl j), some (.inl 0), none, none] [.inr (.inr 101), .inl j, .inl i, .inr (.inr 57)] σ _
    refine jw_W_n 1 (i' := 14) (ls' := [some (.inr (.inr 13)), some (.inl i), some (.inl j), some (.inl 0), none, none]) (st' := [.inl 0, .inr (.inr 101), .inl j, .inl i, .inr (.inr 57)]) rfl ?_
    refine jw_W_ia rfl rfl (by omega) (by omega) (by omega) ?_
    show jw_W (js_S n) _ md_131 15 [some (.inr (.inr 13)), some (.inl i), some (.inl j), some (.inl 0), none, none] [.inl (σ 101 0), .inl j, .inl i, .inr (.inr 57)] σ _
    rw [hp0]
    have hl0 := jm_f_w hPm hcb (k := m % 10) (i := i) (j := j) (by omega) (by omega) i0 i1 j0 j1
    have hr0 := jm_f_w hPm hcb (k := m % 10) (i := j) (j := i) (by omega) (by omega) j0 j1 i0 i1
    refine jw_W_call (as := [.inr (.inr 57), .inl i, .inl j, .inl (m % 10)]) (rest := []) rfl rfl rfl rfl (Nat.le_of_ble_eq_true rfl) (.inr rfl) (jx_lead hI i0 i1 j0 j1 (by omega) (by omega)) (by omega) ?_ rfl
    rintro r1 σz ⟨rfl, hs⟩
    rw [hs]
    show jw_W (js_S n) _ md_131 16 [some (.inr (.inr 13)), some (.inl i), some (.inl j), some (.inl 0), none, none] [.inr (.inl (ge_f (jm_W σ (m % 10)) (jm_ct σ i) * σ 135 j - ge_f (jm_W σ (m % 10)) (jm_ct σ j) * σ 135 i))] σ _
    refine jw_W_n 3 (i' := 19) (ls' := [some (.inr (.inr 13)), some (.inl i), some (.inl j), some (.inl 0), some (.inr (.inl (ge_f (jm_W σ (m % 10)) (jm_ct σ i) * σ 135 j - ge_f (jm_W σ (m % 10)) (jm_ct σ j) * σ 135 i))), none]) (st' := [.inr (.inl 0), .inr (.inl (ge_f (jm_W σ (m % 10)) (jm_ct σ i) * σ 135 j - ge_f (jm_W σ (m % 10)) (jm_ct σ j) * σ 135 i))]) rfl ?_
    refine jw_W_lc rfl rfl (by unfold jw_rgl; omega) (by unfold jw_rgl; omega) (fun hc2 => ?_) (fun hc2 => ?_)
    · have hc2 : (ge_f (jm_W σ (m % 10)) (jm_ct σ i) * σ 135 j - ge_f (jm_W σ (m % 10)) (jm_ct σ j) * σ 135 i) = 0 := hc2
      refine jw_W_n 4 (i' := 4) (ls' := [some (.inr (.inr 13)), some (.inl i), some (.inl j), some (.inl 1), some (.inr (.inl (ge_f (jm_W σ (m % 10)) (jm_ct σ i) * σ 135 j - ge_f (jm_W σ (m % 10)) (jm_ct σ j) * σ 135 i))), none]) (st' := [.inr (.inr 13), .inl 1]) rfl ?_
      refine jw_W_gf rfl rfl rfl ?_
      show jw_W (js_S n) _ md_131 5 [some (.inr (.inr 13)), some (.inl i), some (.inl j), some (.inl 1), some (.inr (.inl (ge_f (jm_W σ (m % 10)) (jm_ct σ i) * σ 135 j - ge_f (jm_W σ (m % 10)) (jm_ct σ j) * σ 135 i))), none] [.inr (.inr ((σ 13 2).toNat)), .inl 1] σ _
      rw [hto]
      refine jw_W_gf rfl hp.2.1 rfl ?_
      show jw_W (js_S n) _ md_131 6 [some (.inr (.inr 13)), some (.inl i), some (.inl j), some (.inl 1), some (.inr (.inl (ge_f (jm_W σ (m % 10)) (jm_ct σ i) * σ 135 j - ge_f (jm_W σ (m % 10)) (jm_ct σ j) * σ 135 i))), none] [.inl (σ o 1), .inl 1] σ _
      rw [hW]
      refine jw_W_ic rfl (by unfold jw_rg; omega) (by unfold jw_rg; omega) (fun hc3 => ?_) (fun hc3 => ?_)
      · clear hc3
        refine jw_W_n 1 (i' := 32) (ls' := [some (.inr (.inr 13)), some (.inl i), some (.inl j), some (.inl 1), some (.inr (.inl (ge_f (jm_W σ (m % 10)) (jm_ct σ i) * σ 135 j - ge_f (jm_W σ (m % 10)) (jm_ct σ j) * σ 135 i))), none]) (st' := [.inl 0]) rfl ?_
        refine jw_W_ir rfl ?_
        exact .inr ⟨rfl, rfl, show ¬ (ge_f (jm_W σ (m % 10)) (jm_ct σ j) * σ 135 i < ge_f (jm_W σ (m % 10)) (jm_ct σ i) * σ 135 j ∨ (¬ (ge_f (jm_W σ (m % 10)) (jm_ct σ i) * σ 135 j < ge_f (jm_W σ (m % 10)) (jm_ct σ j) * σ 135 i) ∧ False)) from by simp only [and_false, or_false]; omega⟩
      · exact absurd hc3 (show ¬ ¬ ((1 : Int) ≥ 1) by omega)
    · have hc2 : ¬ ((ge_f (jm_W σ (m % 10)) (jm_ct σ i) * σ 135 j - ge_f (jm_W σ (m % 10)) (jm_ct σ j) * σ 135 i) = 0) := hc2
      refine jw_W_n 2 (i' := 23) (ls' := [some (.inr (.inr 13)), some (.inl i), some (.inl j), some (.inl 0), some (.inr (.inl (ge_f (jm_W σ (m % 10)) (jm_ct σ i) * σ 135 j - ge_f (jm_W σ (m % 10)) (jm_ct σ j) * σ 135 i))), none]) (st' := [.inr (.inl 0), .inr (.inl (ge_f (jm_W σ (m % 10)) (jm_ct σ i) * σ 135 j - ge_f (jm_W σ (m % 10)) (jm_ct σ j) * σ 135 i))]) rfl ?_
      refine jw_W_lc rfl rfl (by unfold jw_rgl; omega) (by unfold jw_rgl; omega) (fun hc4 => ?_) (fun hc4 => ?_)
      · have hc4 : (ge_f (jm_W σ (m % 10)) (jm_ct σ i) * σ 135 j - ge_f (jm_W σ (m % 10)) (jm_ct σ j) * σ 135 i) ≤ 0 := hc4
        refine jw_W_n 1 (i' := 28) (ls' := [some (.inr (.inr 13)), some (.inl i), some (.inl j), some (.inl 0), some (.inr (.inl (ge_f (jm_W σ (m % 10)) (jm_ct σ i) * σ 135 j - ge_f (jm_W σ (m % 10)) (jm_ct σ j) * σ 135 i))), none]) (st' := [.inl 0]) rfl ?_
        refine jw_W_ir rfl ?_
        exact .inr ⟨rfl, rfl, show ¬ (ge_f (jm_W σ (m % 10)) (jm_ct σ j) * σ 135 i < ge_f (jm_W σ (m % 10)) (jm_ct σ i) * σ 135 j ∨ (¬ (ge_f (jm_W σ (m % 10)) (jm_ct σ i) * σ 135 j < ge_f (jm_W σ (m % 10)) (jm_ct σ j) * σ 135 i) ∧ False)) from by simp only [and_false, or_false]; omega⟩
      · have hc4 : ¬ ((ge_f (jm_W σ (m % 10)) (jm_ct σ i) * σ 135 j - ge_f (jm_W σ (m % 10)) (jm_ct σ j) * σ 135 i) ≤ 0) := hc4
        refine jw_W_n 2 (i' := 28) (ls' := [some (.inr (.inr 13)), some (.inl i), some (.inl j), some (.inl 0), some (.inr (.inl (ge_f (jm_W σ (m % 10)) (jm_ct σ i) * σ 135 j - ge_f (jm_W σ (m % 10)) (jm_ct σ j) * σ 135 i))), none]) (st' := [.inl 1]) rfl ?_
        refine jw_W_ir rfl ?_
        exact .inl ⟨rfl, rfl, show (ge_f (jm_W σ (m % 10)) (jm_ct σ j) * σ 135 i < ge_f (jm_W σ (m % 10)) (jm_ct σ i) * σ 135 j ∨ (¬ (ge_f (jm_W σ (m % 10)) (jm_ct σ i) * σ 135 j < ge_f (jm_W σ (m % 10)) (jm_ct σ j) * σ 135 i) ∧ False)) from by simp only [and_false, or_false]; omega⟩
theorem jx_isAhead_2 {n : Nat} {σ : jw_H} {o : Nat} {C : List (ge_R × Int)} (hK : jx_K n o C σ) {i j : Int} (i0 : 0 ≤ i) (i1 : i < σ 103 56) (j0 : 0 ≤ j) (j1 : j < σ 103 56) (hW4 : σ 103 4 = 2) {m : Int} (hm : jn_okW 2 m) (hpl : jn_pls σ 2 m) : jw_T (js_S n) 4 131 [.inr (.inr 13), .inl i, .inl j] σ (fun r σ' => (r = some (.inl 1) ∧ σ' = σ ∧ (jn_ah σ [m / 10 % 10, m % 10] i j)) ∨ (r = some (.inl 0) ∧ σ' = σ ∧ ¬ (jn_ah σ [m / 10 % 10, m % 10] i j))) := by
  refine jw_T_of (D := 3) (M := mm_131) rfl (Nat.le_of_ble_eq_true rfl) (ls0 := [some (.inr (.inr 13)), some (.inl i), some (.inl j), none, none, none]) rfl ?_ (by rintro _ _ (⟨rfl, -⟩ | ⟨rfl, -⟩) <;> rfl)
  have hI := hK.1
  obtain ⟨hto, hfo, hp, hP, e0, e1, e2, hPm, hcb, c0, p0, -⟩ := jx_I0_x hI
  have ho := hp.1
  have hq := hP.1
  have hw := hP.2.1
  have hq2 := hP.2.2.1
  have hcn := hcb.1
  have hW : σ o 1 = 2 := by rw [e1, hW4]
  have hdg := jn_dig hm
  have hdg := hdg.2.1 rfl
  obtain ⟨hh, -⟩ | ⟨-, hp0, hp1⟩ | ⟨hh, -⟩ := hpl
  · omega
  rotate_left
  · omega
  refine jw_W_n 4 (i' := 4) (ls' := [some (.inr (.inr 13)), some (.inl i), some (.inl j), some (.inl 0), none, none]) (st' := [.inr (.inr 13), .inl 0]) rfl ?_
  refine jw_W_gf rfl rfl rfl ?_
  show jw_W (js_S n) _ md_131 5 [some (.inr (.inr 13)), some (.inl i), some (.inl j), some (.inl 0), none, none] [.inr (.inr ((σ 13 2).toNat)), .inl 0] σ _
  rw [hto]
  refine jw_W_gf rfl hp.2.1 rfl ?_
  show jw_W (js_S n) _ md_131 6 [some (.inr (.inr 13)), some (.inl i), some (.inl j), some (.inl 0), none, none] [.inl (σ o 1), .inl 0] σ _
  rw [hW]
  refine jw_W_ic rfl (by unfold jw_rg; omega) (by unfold jw_rg; omega) (fun hc1 => ?_) (fun hc1 => ?_)
  · exact absurd hc1 (show ¬ ((0 : Int) ≥ 2) by omega)
  · clear hc1
    refine jw_W_n 1 (i' := 8) (ls' := [some (.inr (.inr 13)), some (.inl i), some (.inl j), some (.inl 0), none, none]) (st' := [.inr (.inr 13)]) rfl ?_
    refine jw_W_gf rfl rfl rfl ?_
    show jw_W (js_S n) _ md_131 9 [some (.inr (.inr 13)), some (.inl i), some (.inl j), some (.inl 0), none, none] [.inr (.inr 57)] σ _
    refine jw_W_n 3 (i' := 12) (ls' := [some (.inr (.inr 13)), some (.inl i), some (.inl j), some (.inl 0), none, none]) (st' := [.inr (.inr 13), .inl j, .inl i, .inr (.inr 57)]) rfl ?_
    refine jw_W_gf rfl rfl rfl ?_
    show jw_W (js_S n) _ md_131 13 [some (.inr (.inr 13)), some (.inl i), some (.inl j), some (.inl 0), none, none] [.inr (.inr 101), .inl j, .inl i, .inr (.inr 57)] σ _
    refine jw_W_n 1 (i' := 14) (ls' := [some (.inr (.inr 13)), some (.inl i), some (.inl j), some (.inl 0), none, none]) (st' := [.inl 0, .inr (.inr 101), .inl j, .inl i, .inr (.inr 57)]) rfl ?_
    refine jw_W_ia rfl rfl (by omega) (by omega) (by omega) ?_
    show jw_W (js_S n) _ md_131 15 [some (.inr (.inr 13)), some (.inl i), some (.inl j), some (.inl 0), none, none] [.inl (σ 101 0), .inl j, .inl i, .inr (.inr 57)] σ _
    rw [hp0]
    have hl0 := jm_f_w hPm hcb (k := m / 10 % 10) (i := i) (j := j) (by omega) (by omega) i0 i1 j0 j1
    have hr0 := jm_f_w hPm hcb (k := m / 10 % 10) (i := j) (j := i) (by omega) (by omega) j0 j1 i0 i1
    refine jw_W_call (as := [.inr (.inr 57), .inl i, .inl j, .inl (m / 10 % 10)]) (rest := []) rfl rfl rfl rfl (Nat.le_of_ble_eq_true rfl) (.inr rfl) (jx_lead hI i0 i1 j0 j1 (by omega) (by omega)) (by omega) ?_ rfl
    rintro r1 σz ⟨rfl, hs⟩
    rw [hs]
    show jw_W (js_S n) _ md_131 16 [some (.inr (.inr 13)), some (.inl i), some (.inl j), some (.inl 0), none, none] [.inr (.inl (ge_f (jm_W σ (m / 10 % 10)) (jm_ct σ i) * σ 135 j - ge_f (jm_W σ (m / 10 % 10)) (jm_ct σ j) * σ 135 i))] σ _
    refine jw_W_n 3 (i' := 19) (ls' := [some (.inr (.inr 13)), some (.inl i), some (.inl j), some (.inl 0), some (.inr (.inl (ge_f (jm_W σ (m / 10 % 10)) (jm_ct σ i) * σ 135 j - ge_f (jm_W σ (m / 10 % 10)) (jm_ct σ j) * σ 135 i))), none]) (st' := [.inr (.inl 0), .inr (.inl (ge_f (jm_W σ (m / 10 % 10)) (jm_ct σ i) * σ 135 j - ge_f (jm_W σ (m / 10 % 10)) (jm_ct σ j) * σ 135 i))]) rfl ?_
    refine jw_W_lc rfl rfl (by unfold jw_rgl; omega) (by unfold jw_rgl; omega) (fun hc2 => ?_) (fun hc2 => ?_)
    · have hc2 : (ge_f (jm_W σ (m / 10 % 10)) (jm_ct σ i) * σ 135 j - ge_f (jm_W σ (m / 10 % 10)) (jm_ct σ j) * σ 135 i) = 0 := hc2
      refine jw_W_n 4 (i' := 4) (ls' := [some (.inr (.inr 13)), some (.inl i), some (.inl j), some (.inl 1), some (.inr (.inl (ge_f (jm_W σ (m / 10 % 10)) (jm_ct σ i) * σ 135 j - ge_f (jm_W σ (m / 10 % 10)) (jm_ct σ j) * σ 135 i))), none]) (st' := [.inr (.inr 13), .inl 1]) rfl ?_
      refine jw_W_gf rfl rfl rfl ?_
      show jw_W (js_S n) _ md_131 5 [some (.inr (.inr 13)), some (.inl i), some (.inl j), some (.inl 1), some (.inr (.inl (ge_f (jm_W σ (m / 10 % 10)) (jm_ct σ i) * σ 135 j - ge_f (jm_W σ (m / 10 % 10)) (jm_ct σ j) * σ 135 i))), none] [.inr (.inr ((σ 13 2).toNat)), .inl 1] σ _
      rw [hto]
      refine jw_W_gf rfl hp.2.1 rfl ?_
      show jw_W (js_S n) _ md_131 6 [some (.inr (.inr 13)), some (.inl i), some (.inl j), some (.inl 1), some (.inr (.inl (ge_f (jm_W σ (m / 10 % 10)) (jm_ct σ i) * σ 135 j - ge_f (jm_W σ (m / 10 % 10)) (jm_ct σ j) * σ 135 i))), none] [.inl (σ o 1), .inl 1] σ _
      rw [hW]
      refine jw_W_ic rfl (by unfold jw_rg; omega) (by unfold jw_rg; omega) (fun hc3 => ?_) (fun hc3 => ?_)
      · exact absurd hc3 (show ¬ ((1 : Int) ≥ 2) by omega)
      · clear hc3
        refine jw_W_n 1 (i' := 8) (ls' := [some (.inr (.inr 13)), some (.inl i), some (.inl j), some (.inl 1), some (.inr (.inl (ge_f (jm_W σ (m / 10 % 10)) (jm_ct σ i) * σ 135 j - ge_f (jm_W σ (m / 10 % 10)) (jm_ct σ j) * σ 135 i))), none]) (st' := [.inr (.inr 13)]) rfl ?_
        refine jw_W_gf rfl rfl rfl ?_
        show jw_W (js_S n) _ md_131 9 [some (.inr (.inr 13)), some (.inl i), some (.inl j), some (.inl 1), some (.inr (.inl (ge_f (jm_W σ (m / 10 % 10)) (jm_ct σ i) * σ 135 j - ge_f (jm_W σ (m / 10 % 10)) (jm_ct σ j) * σ 135 i))), none] [.inr (.inr 57)] σ _
        refine jw_W_n 3 (i' := 12) (ls' := [some (.inr (.inr 13)), some (.inl i), some (.inl j), some (.inl 1), some (.inr (.inl (ge_f (jm_W σ (m / 10 % 10)) (jm_ct σ i) * σ 135 j - ge_f (jm_W σ (m / 10 % 10)) (jm_ct σ j) * σ 135 i))), none]) (st' := [.inr (.inr 13), .inl j, .inl i, .inr (.inr 57)]) rfl ?_
        refine jw_W_gf rfl rfl rfl ?_
        show jw_W (js_S n) _ md_131 13 [some (.inr (.inr 13)), some (.inl i), some (.inl j), some (.inl 1), some (.inr (.inl (ge_f (jm_W σ (m / 10 % 10)) (jm_ct σ i) * σ 135 j - ge_f (jm_W σ (m / 10 % 10)) (jm_ct σ j) * σ 135 i))), none] [.inr (.inr 101), .inl j, .inl i, .inr (.inr 57)] σ _
        refine jw_W_n 1 (i' := 14) (ls' := [some (.inr (.inr 13)), some (.inl i), some (.inl j), some (.inl 1), some (.inr (.inl (ge_f (jm_W σ (m / 10 % 10)) (jm_ct σ i) * σ 135 j - ge_f (jm_W σ (m / 10 % 10)) (jm_ct σ j) * σ 135 i))), none]) (st' := [.inl 1, .inr (.inr 101), .inl j, .inl i, .inr (.inr 57)]) rfl ?_
        refine jw_W_ia rfl rfl (by omega) (by omega) (by omega) ?_
        show jw_W (js_S n) _ md_131 15 [some (.inr (.inr 13)), some (.inl i), some (.inl j), some (.inl 1), some (.inr (.inl (ge_f (jm_W σ (m / 10 % 10)) (jm_ct σ i) * σ 135 j - ge_f (jm_W σ (m / 10 % 10)) (jm_ct σ j) * σ 135 i))), none] [.inl (σ 101 1), .inl j, .inl i, .inr (.inr 57)] σ _
        rw [hp1]
        have hl1 := jm_f_w hPm hcb (k := m % 10) (i := i) (j := j) (by omega) (by omega) i0 i1 j0 j1
        have hr1 := jm_f_w hPm hcb (k := m % 10) (i := j) (j := i) (by omega) (by omega) j0 j1 i0 i1
        refine jw_W_call (as := [.inr (.inr 57), .inl i, .inl j, .inl (m % 10)]) (rest := []) rfl rfl rfl rfl (Nat.le_of_ble_eq_true rfl) (.inr rfl) (jx_lead hI i0 i1 j0 j1 (by omega) (by omega)) (by omega) ?_ rfl
        rintro r1 σz ⟨rfl, hs⟩
        rw [hs]
        show jw_W (js_S n) _ md_131 16 [some (.inr (.inr 13)), some (.inl i), some (.inl j), some (.inl 1), some (.inr (.inl (ge_f (jm_W σ (m / 10 % 10)) (jm_ct σ i) * σ 135 j - ge_f (jm_W σ (m / 10 % 10)) (jm_ct σ j) * σ 135 i))), none] [.inr (.inl (ge_f (jm_W σ (m % 10)) (jm_ct σ i) * σ 135 j - ge_f (jm_W σ (m % 10)) (jm_ct σ j) * σ 135 i))] σ _
        refine jw_W_n 3 (i' := 19) (ls' := [some (.inr (.inr 13)), some (.inl i), some (.inl j), some (.inl 1), some (.inr (.inl (ge_f (jm_W σ (m % 10)) (jm_ct σ i) * σ 135 j - ge_f (jm_W σ (m % 10)) (jm_ct σ j) * σ 135 i))), none]) (st' := [.inr (.inl 0), .inr (.inl (ge_f (jm_W σ (m % 10)) (jm_ct σ i) * σ 135 j - ge_f (jm_W σ (m % 10)) (jm_ct σ j) * σ 135 i))]) rfl ?_
        refine jw_W_lc rfl rfl (by unfold jw_rgl; omega) (by unfold jw_rgl; omega) (fun hc4 => ?_) (fun hc4 => ?_)
        · have hc4 : (ge_f (jm_W σ (m % 10)) (jm_ct σ i) * σ 135 j - ge_f (jm_W σ (m % 10)) (jm_ct σ j) * σ 135 i) = 0 := hc4
          refine jw_W_n 4 (i' := 4) (ls' := [some (.inr (.inr 13)), some (.inl i), some (.inl j), some (.inl 2), some (.inr (.inl (ge_f (jm_W σ (m % 10)) (jm_ct σ i) * σ 135 j - ge_f (jm_W σ (m % 10)) (jm_ct σ j) * σ 135 i))), none]) (st' := [.inr (.inr 13), .inl 2]) rfl ?_
          refine jw_W_gf rfl rfl rfl ?_
          show jw_W (js_S n) _ md_131 5 [some (.inr (.inr 13)), some (.inl i), some (.inl j), some (.inl 2), some (.inr (.inl (ge_f (jm_W σ (m % 10)) (jm_ct σ i) * σ 135 j - ge_f (jm_W σ (m % 10)) (jm_ct σ j) * σ 135 i))), none] [.inr (.inr ((σ 13 2).toNat)), .inl 2] σ _
          rw [hto]
          refine jw_W_gf rfl hp.2.1 rfl ?_
          show jw_W (js_S n) _ md_131 6 [some (.inr (.inr 13)), some (.inl i), some (.inl j), some (.inl 2), some (.inr (.inl (ge_f (jm_W σ (m % 10)) (jm_ct σ i) * σ 135 j - ge_f (jm_W σ (m % 10)) (jm_ct σ j) * σ 135 i))), none] [.inl (σ o 1), .inl 2] σ _
          rw [hW]
          refine jw_W_ic rfl (by unfold jw_rg; omega) (by unfold jw_rg; omega) (fun hc5 => ?_) (fun hc5 => ?_)
          · clear hc5
            refine jw_W_n 1 (i' := 32) (ls' := [some (.inr (.inr 13)), some (.inl i), some (.inl j), some (.inl 2), some (.inr (.inl (ge_f (jm_W σ (m % 10)) (jm_ct σ i) * σ 135 j - ge_f (jm_W σ (m % 10)) (jm_ct σ j) * σ 135 i))), none]) (st' := [.inl 0]) rfl ?_
            refine jw_W_ir rfl ?_
            exact .inr ⟨rfl, rfl, show ¬ (ge_f (jm_W σ (m / 10 % 10)) (jm_ct σ j) * σ 135 i < ge_f (jm_W σ (m / 10 % 10)) (jm_ct σ i) * σ 135 j ∨ (¬ (ge_f (jm_W σ (m / 10 % 10)) (jm_ct σ i) * σ 135 j < ge_f (jm_W σ (m / 10 % 10)) (jm_ct σ j) * σ 135 i) ∧ (ge_f (jm_W σ (m % 10)) (jm_ct σ j) * σ 135 i < ge_f (jm_W σ (m % 10)) (jm_ct σ i) * σ 135 j ∨ (¬ (ge_f (jm_W σ (m % 10)) (jm_ct σ i) * σ 135 j < ge_f (jm_W σ (m % 10)) (jm_ct σ j) * σ 135 i) ∧ False)))) from by simp only [and_false, or_false]; omega⟩
          · exact absurd hc5 (show ¬ ¬ ((2 : Int) ≥ 2) by omega)
        · have hc4 : ¬ ((ge_f (jm_W σ (m % 10)) (jm_ct σ i) * σ 135 j - ge_f (jm_W σ (m % 10)) (jm_ct σ j) * σ 135 i) = 0) := hc4
          refine jw_W_n 2 (i' := 23) (ls' := [some (.inr (.inr 13)), some (.inl i), some (.inl j), some (.inl 1), some (.inr (.inl (ge_f (jm_W σ (m % 10)) (jm_ct σ i) * σ 135 j - ge_f (jm_W σ (m % 10)) (jm_ct σ j) * σ 135 i))), none]) (st' := [.inr (.inl 0), .inr (.inl (ge_f (jm_W σ (m % 10)) (jm_ct σ i) * σ 135 j - ge_f (jm_W σ (m % 10)) (jm_ct σ j) * σ 135 i))]) rfl ?_
          refine jw_W_lc rfl rfl (by unfold jw_rgl; omega) (by unfold jw_rgl; omega) (fun hc6 => ?_) (fun hc6 => ?_)
          · have hc6 : (ge_f (jm_W σ (m % 10)) (jm_ct σ i) * σ 135 j - ge_f (jm_W σ (m % 10)) (jm_ct σ j) * σ 135 i) ≤ 0 := hc6
            refine jw_W_n 1 (i' := 28) (ls' := [some (.inr (.inr 13)), some (.inl i), some (.inl j), some (.inl 1), some (.inr (.inl (ge_f (jm_W σ (m % 10)) (jm_ct σ i) * σ 135 j - ge_f (jm_W σ (m % 10)) (jm_ct σ j) * σ 135 i))), none]) (st' := [.inl 0]) rfl ?_
            refine jw_W_ir rfl ?_
            exact .inr ⟨rfl, rfl, show ¬ (ge_f (jm_W σ (m / 10 % 10)) (jm_ct σ j) * σ 135 i < ge_f (jm_W σ (m / 10 % 10)) (jm_ct σ i) * σ 135 j ∨ (¬ (ge_f (jm_W σ (m / 10 % 10)) (jm_ct σ i) * σ 135 j < ge_f (jm_W σ (m / 10 % 10)) (jm_ct σ j) * σ 135 i) ∧ (ge_f (jm_W σ (m % 10)) (jm_ct σ j) * σ 135 i < ge_f (jm_W σ (m % 10)) (jm_ct σ i) * σ 135 j ∨ (¬ (ge_f (jm_W σ (m % 10)) (jm_ct σ i) * σ 135 j < ge_f (jm_W σ (m % 10)) (jm_ct σ j) * σ 135 i) ∧ False)))) from by simp only [and_false, or_false]; omega⟩
          · have hc6 : ¬ ((ge_f (jm_W σ (m % 10)) (jm_ct σ i) * σ 135 j - ge_f (jm_W σ (m % 10)) (jm_ct σ j) * σ 135 i) ≤ 0) := hc6
            refine jw_W_n 2 (i' := 28) (ls' := [some (.inr (.inr 13)), some (.inl i), some (.inl j), some (.inl 1), some (.inr (.inl (ge_f (jm_W σ (m % 10)) (jm_ct σ i) * σ 135 j - ge_f (jm_W σ (m % 10)) (jm_ct σ j) * σ 135 i))), none]) (st' := [.inl 1]) rfl ?_
            refine jw_W_ir rfl ?_
            exact .inl ⟨rfl, rfl, show (ge_f (jm_W σ (m / 10 % 10)) (jm_ct σ j) * σ 135 i < ge_f (jm_W σ (m / 10 % 10)) (jm_ct σ i) * σ 135 j ∨ (¬ (ge_f (jm_W σ (m / 10 % 10)) (jm_ct σ i) * σ 135 j < ge_f (jm_W σ (m / 10 % 10)) (jm_ct σ j) * σ 135 i) ∧ (ge_f (jm_W σ (m % 10)) (jm_ct σ j) * σ 135 i < ge_f (jm_W σ (m % 10)) (jm_ct σ i) * σ 135 j ∨ (¬ (ge_f (jm_W σ (m % 10)) (jm_ct σ i) * σ 135 j < ge_f (jm_W σ (m % 10)) (jm_ct σ j) * σ 135 i) ∧ False)))) from by simp only [and_false, or_false]; omega⟩
    · have hc2 : ¬ ((ge_f (jm_W σ (m / 10 % 10)) (jm_ct σ i) * σ 135 j - ge_f (jm_W σ (m / 10 % 10)) (jm_ct σ j) * σ 135 i) = 0) := hc2
      refine jw_W_n 2 (i' := 23) (ls' := [some (.inr (.inr 13)), some (.inl i), some (.inl j), some (.inl 0), some (.inr (.inl (ge_f (jm_W σ (m / 10 % 10)) (jm_ct σ i) * σ 135 j - ge_f (jm_W σ (m / 10 % 10)) (jm_ct σ j) * σ 135 i))), none]) (st' := [.inr (.inl 0), .inr (.inl (ge_f (jm_W σ (m / 10 % 10)) (jm_ct σ i) * σ 135 j - ge_f (jm_W σ (m / 10 % 10)) (jm_ct σ j) * σ 135 i))]) rfl ?_
      refine jw_W_lc rfl rfl (by unfold jw_rgl; omega) (by unfold jw_rgl; omega) (fun hc7 => ?_) (fun hc7 => ?_)
      · have hc7 : (ge_f (jm_W σ (m / 10 % 10)) (jm_ct σ i) * σ 135 j - ge_f (jm_W σ (m / 10 % 10)) (jm_ct σ j) * σ 135 i) ≤ 0 := hc7
        refine jw_W_n 1 (i' := 28) (ls' := [some (.inr (.inr 13)), some (.inl i), some (.inl j), some (.inl 0), some (.inr (.inl (ge_f (jm_W σ (m / 10 % 10)) (jm_ct σ i) * σ 135 j - ge_f (jm_W σ (m / 10 % 10)) (jm_ct σ j) * σ 135 i))), none]) (st' := [.inl 0]) rfl ?_
        refine jw_W_ir rfl ?_
        exact .inr ⟨rfl, rfl, show ¬ (ge_f (jm_W σ (m / 10 % 10)) (jm_ct σ j) * σ 135 i < ge_f (jm_W σ (m / 10 % 10)) (jm_ct σ i) * σ 135 j ∨ (¬ (ge_f (jm_W σ (m / 10 % 10)) (jm_ct σ i) * σ 135 j < ge_f (jm_W σ (m / 10 % 10)) (jm_ct σ j) * σ 135 i) ∧ (ge_f (jm_W σ (m % 10)) (jm_ct σ j) * σ 135 i < ge_f (jm_W σ (m % 10)) (jm_ct σ i) * σ 135 j ∨ (¬ (ge_f (jm_W σ (m % 10)) (jm_ct σ i) * σ 135 j < ge_f (jm_W σ (m % 10)) (jm_ct σ j) * σ 135 i) ∧ False)))) from by simp only [and_false, or_false]; omega⟩
      · have hc7 : ¬ ((ge_f (jm_W σ (m / 10 % 10)) (jm_ct σ i) * σ 135 j - ge_f (jm_W σ (m / 10 % 10)) (jm_ct σ j) * σ 135 i) ≤ 0) := hc7
        refine jw_W_n 2 (i' := 28) (ls' := [some (.inr (.inr 13)), some (.inl i), some (.inl j), some (.inl 0), some (.inr (.inl (ge_f (jm_W σ (m / 10 % 10)) (jm_ct σ i) * σ 135 j - ge_f (jm_W σ (m / 10 % 10)) (jm_ct σ j) * σ 135 i))), none]) (st' := [.inl 1]) rfl ?_
        refine jw_W_ir rfl ?_
        exact .inl ⟨rfl, rfl, show (ge_f (jm_W σ (m / 10 % 10)) (jm_ct σ j) * σ 135 i < ge_f (jm_W σ (m / 10 % 10)) (jm_ct σ i) * σ 135 j ∨ (¬ (ge_f (jm_W σ (m / 10 % 10)) (jm_ct σ i) * σ 135 j < ge_f (jm_W σ (m / 10 % 10)) (jm_ct σ j) * σ 135 i) ∧ (ge_f (jm_W σ (m % 10)) (jm_ct σ j) * σ 135 i < ge_f (jm_W σ (m % 10)) (jm_ct σ i) * σ 135 j ∨ (¬ (ge_f (jm_W σ (m % 10)) (jm_ct σ i) * σ 135 j < ge_f (jm_W σ (m % 10)) (jm_ct σ j) * σ 135 i) ∧ False)))) from by simp only [and_false, or_false]; omega⟩
theorem jx_isAhead_3 {n : Nat} {σ : jw_H} {o : Nat} {C : List (ge_R × Int)} (hK : jx_K n o C σ) {i j : Int} (i0 : 0 ≤ i) (i1 : i < σ 103 56) (j0 : 0 ≤ j) (j1 : j < σ 103 56) (hW4 : σ 103 4 = 3) {m : Int} (hm : jn_okW 3 m) (hpl : jn_pls σ 3 m) : jw_T (js_S n) 4 131 [.inr (.inr 13), .inl i, .inl j] σ (fun r σ' => (r = some (.inl 1) ∧ σ' = σ ∧ (jn_ah σ [m / 100 % 10, m / 10 % 10, m % 10] i j)) ∨ (r = some (.inl 0) ∧ σ' = σ ∧ ¬ (jn_ah σ [m / 100 % 10, m / 10 % 10, m % 10] i j))) := by
  refine jw_T_of (D := 3) (M := mm_131) rfl (Nat.le_of_ble_eq_true rfl) (ls0 := [some (.inr (.inr 13)), some (.inl i), some (.inl j), none, none, none]) rfl ?_ (by rintro _ _ (⟨rfl, -⟩ | ⟨rfl, -⟩) <;> rfl)
  have hI := hK.1
  obtain ⟨hto, hfo, hp, hP, e0, e1, e2, hPm, hcb, c0, p0, -⟩ := jx_I0_x hI
  have ho := hp.1
  have hq := hP.1
  have hw := hP.2.1
  have hq2 := hP.2.2.1
  have hcn := hcb.1
  have hW : σ o 1 = 3 := by rw [e1, hW4]
  have hdg := jn_dig hm
  have hdg := hdg.2.2 rfl
  obtain ⟨hh, -⟩ | ⟨hh, -⟩ | ⟨-, hp0, hp1, hp2⟩ := hpl
  · omega
  · omega
  refine jw_W_n 4 (i' := 4) (ls' := [some (.inr (.inr 13)), some (.inl i), some (.inl j), some (.inl 0), none, none]) (st' := [.inr (.inr 13), .inl 0]) rfl ?_
  refine jw_W_gf rfl rfl rfl ?_
  show jw_W (js_S n) _ md_131 5 [some (.inr (.inr 13)), some (.inl i), some (.inl j), some (.inl 0), none, none] [.inr (.inr ((σ 13 2).toNat)), .inl 0] σ _
  rw [hto]
  refine jw_W_gf rfl hp.2.1 rfl ?_
  show jw_W (js_S n) _ md_131 6 [some (.inr (.inr 13)), some (.inl i), some (.inl j), some (.inl 0), none, none] [.inl (σ o 1), .inl 0] σ _
  rw [hW]
  refine jw_W_ic rfl (by unfold jw_rg; omega) (by unfold jw_rg; omega) (fun hc1 => ?_) (fun hc1 => ?_)
  · exact absurd hc1 (show ¬ ((0 : Int) ≥ 3) by omega)
  · clear hc1
    refine jw_W_n 1 (i' := 8) (ls' := [some (.inr (.inr 13)), some (.inl i), some (.inl j), some (.inl 0), none, none]) (st' := [.inr (.inr 13)]) rfl ?_
    refine jw_W_gf rfl rfl rfl ?_
    show jw_W (js_S n) _ md_131 9 [some (.inr (.inr 13)), some (.inl i), some (.inl j), some (.inl 0), none, none] [.inr (.inr 57)] σ _
    refine jw_W_n 3 (i' := 12) (ls' := [some (.inr (.inr 13)), some (.inl i), some (.inl j), some (.inl 0), none, none]) (st' := [.inr (.inr 13), .inl j, .inl i, .inr (.inr 57)]) rfl ?_
    refine jw_W_gf rfl rfl rfl ?_
    show jw_W (js_S n) _ md_131 13 [some (.inr (.inr 13)), some (.inl i), some (.inl j), some (.inl 0), none, none] [.inr (.inr 101), .inl j, .inl i, .inr (.inr 57)] σ _
    refine jw_W_n 1 (i' := 14) (ls' := [some (.inr (.inr 13)), some (.inl i), some (.inl j), some (.inl 0), none, none]) (st' := [.inl 0, .inr (.inr 101), .inl j, .inl i, .inr (.inr 57)]) rfl ?_
    refine jw_W_ia rfl rfl (by omega) (by omega) (by omega) ?_
    show jw_W (js_S n) _ md_131 15 [some (.inr (.inr 13)), some (.inl i), some (.inl j), some (.inl 0), none, none] [.inl (σ 101 0), .inl j, .inl i, .inr (.inr 57)] σ _
    rw [hp0]
    have hl0 := jm_f_w hPm hcb (k := m / 100 % 10) (i := i) (j := j) (by omega) (by omega) i0 i1 j0 j1
    have hr0 := jm_f_w hPm hcb (k := m / 100 % 10) (i := j) (j := i) (by omega) (by omega) j0 j1 i0 i1
    refine jw_W_call (as := [.inr (.inr 57), .inl i, .inl j, .inl (m / 100 % 10)]) (rest := []) rfl rfl rfl rfl (Nat.le_of_ble_eq_true rfl) (.inr rfl) (jx_lead hI i0 i1 j0 j1 (by omega) (by omega)) (by omega) ?_ rfl
    rintro r1 σz ⟨rfl, hs⟩
    rw [hs]
    show jw_W (js_S n) _ md_131 16 [some (.inr (.inr 13)), some (.inl i), some (.inl j), some (.inl 0), none, none] [.inr (.inl (ge_f (jm_W σ (m / 100 % 10)) (jm_ct σ i) * σ 135 j - ge_f (jm_W σ (m / 100 % 10)) (jm_ct σ j) * σ 135 i))] σ _
    refine jw_W_n 3 (i' := 19) (ls' := [some (.inr (.inr 13)), some (.inl i), some (.inl j), some (.inl 0), some (.inr (.inl (ge_f (jm_W σ (m / 100 % 10)) (jm_ct σ i) * σ 135 j - ge_f (jm_W σ (m / 100 % 10)) (jm_ct σ j) * σ 135 i))), none]) (st' := [.inr (.inl 0), .inr (.inl (ge_f (jm_W σ (m / 100 % 10)) (jm_ct σ i) * σ 135 j - ge_f (jm_W σ (m / 100 % 10)) (jm_ct σ j) * σ 135 i))]) rfl ?_
    refine jw_W_lc rfl rfl (by unfold jw_rgl; omega) (by unfold jw_rgl; omega) (fun hc2 => ?_) (fun hc2 => ?_)
    · have hc2 : (ge_f (jm_W σ (m / 100 % 10)) (jm_ct σ i) * σ 135 j - ge_f (jm_W σ (m / 100 % 10)) (jm_ct σ j) * σ 135 i) = 0 := hc2
      refine jw_W_n 4 (i' := 4) (ls' := [some (.inr (.inr 13)), some (.inl i), some (.inl j), some (.inl 1), some (.inr (.inl (ge_f (jm_W σ (m / 100 % 10)) (jm_ct σ i) * σ 135 j - ge_f (jm_W σ (m / 100 % 10)) (jm_ct σ j) * σ 135 i))), none]) (st' := [.inr (.inr 13), .inl 1]) rfl ?_
      refine jw_W_gf rfl rfl rfl ?_
      show jw_W (js_S n) _ md_131 5 [some (.inr (.inr 13)), some (.inl i), some (.inl j), some (.inl 1), some (.inr (.inl (ge_f (jm_W σ (m / 100 % 10)) (jm_ct σ i) * σ 135 j - ge_f (jm_W σ (m / 100 % 10)) (jm_ct σ j) * σ 135 i))), none] [.inr (.inr ((σ 13 2).toNat)), .inl 1] σ _
      rw [hto]
      refine jw_W_gf rfl hp.2.1 rfl ?_
      show jw_W (js_S n) _ md_131 6 [some (.inr (.inr 13)), some (.inl i), some (.inl j), some (.inl 1), some (.inr (.inl (ge_f (jm_W σ (m / 100 % 10)) (jm_ct σ i) * σ 135 j - ge_f (jm_W σ (m / 100 % 10)) (jm_ct σ j) * σ 135 i))), none] [.inl (σ o 1), .inl 1] σ _
      rw [hW]
      refine jw_W_ic rfl (by unfold jw_rg; omega) (by unfold jw_rg; omega) (fun hc3 => ?_) (fun hc3 => ?_)
      · exact absurd hc3 (show ¬ ((1 : Int) ≥ 3) by omega)
      · clear hc3
        refine jw_W_n 1 (i' := 8) (ls' := [some (.inr (.inr 13)), some (.inl i), some (.inl j), some (.inl 1), some (.inr (.inl (ge_f (jm_W σ (m / 100 % 10)) (jm_ct σ i) * σ 135 j - ge_f (jm_W σ (m / 100 % 10)) (jm_ct σ j) * σ 135 i))), none]) (st' := [.inr (.inr 13)]) rfl ?_
        refine jw_W_gf rfl rfl rfl ?_
        show jw_W (js_S n) _ md_131 9 [some (.inr (.inr 13)), some (.inl i), some (.inl j), some (.inl 1), some (.inr (.inl (ge_f (jm_W σ (m / 100 % 10)) (jm_ct σ i) * σ 135 j - ge_f (jm_W σ (m / 100 % 10)) (jm_ct σ j) * σ 135 i))), none] [.inr (.inr 57)] σ _
        refine jw_W_n 3 (i' := 12) (ls' := [some (.inr (.inr 13)), some (.inl i), some (.inl j), some (.inl 1), some (.inr (.inl (ge_f (jm_W σ (m / 100 % 10)) (jm_ct σ i) * σ 135 j - ge_f (jm_W σ (m / 100 % 10)) (jm_ct σ j) * σ 135 i))), none]) (st' := [.inr (.inr 13), .inl j, .inl i, .inr (.inr 57)]) rfl ?_
        refine jw_W_gf rfl rfl rfl ?_
        show jw_W (js_S n) _ md_131 13 [some (.inr (.inr 13)), some (.inl i), some (.inl j), some (.inl 1), some (.inr (.inl (ge_f (jm_W σ (m / 100 % 10)) (jm_ct σ i) * σ 135 j - ge_f (jm_W σ (m / 100 % 10)) (jm_ct σ j) * σ 135 i))), none] [.inr (.inr 101), .inl j, .inl i, .inr (.inr 57)] σ _
        refine jw_W_n 1 (i' := 14) (ls' := [some (.inr (.inr 13)), some (.inl i), some (.inl j), some (.inl 1), some (.inr (.inl (ge_f (jm_W σ (m / 100 % 10)) (jm_ct σ i) * σ 135 j - ge_f (jm_W σ (m / 100 % 10)) (jm_ct σ j) * σ 135 i))), none]) (st' := [.inl 1, .inr (.inr 101), .inl j, .inl i, .inr (.inr 57)]) rfl ?_
        refine jw_W_ia rfl rfl (by omega) (by omega) (by omega) ?_
        show jw_W (js_S n) _ md_131 15 [some (.inr (.inr 13)), some (.inl i), some (.inl j), some (.inl 1), some (.inr (.inl (ge_f (jm_W σ (m / 100 % 10)) (jm_ct σ i) * σ 135 j - ge_f (jm_W σ (m / 100 % 10)) (jm_ct σ j) * σ 135 i))), none] [.inl (σ 101 1), .inl j, .inl i, .inr (.inr 57)] σ _
        rw [hp1]
        have hl1 := jm_f_w hPm hcb (k := m / 10 % 10) (i := i) (j := j) (by omega) (by omega) i0 i1 j0 j1
        have hr1 := jm_f_w hPm hcb (k := m / 10 % 10) (i := j) (j := i) (by omega) (by omega) j0 j1 i0 i1
        refine jw_W_call (as := [.inr (.inr 57), .inl i, .inl j, .inl (m / 10 % 10)]) (rest := []) rfl rfl rfl rfl (Nat.le_of_ble_eq_true rfl) (.inr rfl) (jx_lead hI i0 i1 j0 j1 (by omega) (by omega)) (by omega) ?_ rfl
        rintro r1 σz ⟨rfl, hs⟩
        rw [hs]
        show jw_W (js_S n) _ md_131 16 [some (.inr (.inr 13)), some (.inl i), some (.inl j), some (.inl 1), some (.inr (.inl (ge_f (jm_W σ (m / 100 % 10)) (jm_ct σ i) * σ 135 j - ge_f (jm_W σ (m / 100 % 10)) (jm_ct σ j) * σ 135 i))), none] [.inr (.inl (ge_f (jm_W σ (m / 10 % 10)) (jm_ct σ i) * σ 135 j - ge_f (jm_W σ (m / 10 % 10)) (jm_ct σ j) * σ 135 i))] σ _
        refine jw_W_n 3 (i' := 19) (ls' := [some (.inr (.inr 13)), some (.inl i), some (.inl j), some (.inl 1), some (.inr (.inl (ge_f (jm_W σ (m / 10 % 10)) (jm_ct σ i) * σ 135 j - ge_f (jm_W σ (m / 10 % 10)) (jm_ct σ j) * σ 135 i))), none]) (st' := [.inr (.inl 0), .inr (.inl (ge_f (jm_W σ (m / 10 % 10)) (jm_ct σ i) * σ 135 j - ge_f (jm_W σ (m / 10 % 10)) (jm_ct σ j) * σ 135 i))]) rfl ?_
        refine jw_W_lc rfl rfl (by unfold jw_rgl; omega) (by unfold jw_rgl; omega) (fun hc4 => ?_) (fun hc4 => ?_)
        · have hc4 : (ge_f (jm_W σ (m / 10 % 10)) (jm_ct σ i) * σ 135 j - ge_f (jm_W σ (m / 10 % 10)) (jm_ct σ j) * σ 135 i) = 0 := hc4
          refine jw_W_n 4 (i' := 4) (ls' := [some (.inr (.inr 13)), some (.inl i), some (.inl j), some (.inl 2), some (.inr (.inl (ge_f (jm_W σ (m / 10 % 10)) (jm_ct σ i) * σ 135 j - ge_f (jm_W σ (m / 10 % 10)) (jm_ct σ j) * σ 135 i))), none]) (st' := [.inr (.inr 13), .inl 2]) rfl ?_
          refine jw_W_gf rfl rfl rfl ?_
          show jw_W (js_S n) _ md_131 5 [some (.inr (.inr 13)), some (.inl i), some (.inl j), some (.inl 2), some (.inr (.inl (ge_f (jm_W σ (m / 10 % 10)) (jm_ct σ i) * σ 135 j - ge_f (jm_W σ (m / 10 % 10)) (jm_ct σ j) * σ 135 i))), none] [.inr (.inr ((σ 13 2).toNat)), .inl 2] σ _
          rw [hto]
          refine jw_W_gf rfl hp.2.1 rfl ?_
          show jw_W (js_S n) _ md_131 6 [some (.inr (.inr 13)), some (.inl i), some (.inl j), some (.inl 2), some (.inr (.inl (ge_f (jm_W σ (m / 10 % 10)) (jm_ct σ i) * σ 135 j - ge_f (jm_W σ (m / 10 % 10)) (jm_ct σ j) * σ 135 i))), none] [.inl (σ o 1), .inl 2] σ _
          rw [hW]
          refine jw_W_ic rfl (by unfold jw_rg; omega) (by unfold jw_rg; omega) (fun hc5 => ?_) (fun hc5 => ?_)
          · exact absurd hc5 (show ¬ ((2 : Int) ≥ 3) by omega)
          · clear hc5
            refine jw_W_n 1 (i' := 8) (ls' := [some (.inr (.inr 13)), some (.inl i), some (.inl j), some (.inl 2), some (.inr (.inl (ge_f (jm_W σ (m / 10 % 10)) (jm_ct σ i) * σ 135 j - ge_f (jm_W σ (m / 10 % 10)) (jm_ct σ j) * σ 135 i))), none]) (st' := [.inr (.inr 13)]) rfl ?_
            refine jw_W_gf rfl rfl rfl ?_
            show jw_W (js_S n) _ md_131 9 [some (.inr (.inr 13)), some (.inl i), some (.inl j), some (.inl 2), some (.inr (.inl (ge_f (jm_W σ (m / 10 % 10)) (jm_ct σ i) * σ 135 j - ge_f (jm_W σ (m / 10 % 10)) (jm_ct σ j) * σ 135 i))), none] [.inr (.inr 57)] σ _
            refine jw_W_n 3 (i' := 12) (ls' := [some (.inr (.inr 13)), some (.inl i), some (.inl j), some (.inl 2), some (.inr (.inl (ge_f (jm_W σ (m / 10 % 10)) (jm_ct σ i) * σ 135 j - ge_f (jm_W σ (m / 10 % 10)) (jm_ct σ j) * σ 135 i))), none]) (st' := [.inr (.inr 13), .inl j, .inl i, .inr (.inr 57)]) rfl ?_
            refine jw_W_gf rfl rfl rfl ?_
            show jw_W (js_S n) _ md_131 13 [some (.inr (.inr 13)), some (.inl i), some (.inl j), some (.inl 2), some (.inr (.inl (ge_f (jm_W σ (m / 10 % 10)) (jm_ct σ i) * σ 135 j - ge_f (jm_W σ (m / 10 % 10)) (jm_ct σ j) * σ 135 i))), none] [.inr (.inr 101), .inl j, .inl i, .inr (.inr 57)] σ _
            refine jw_W_n 1 (i' := 14) (ls' := [some (.inr (.inr 13)), some (.inl i), some (.inl j), some (.inl 2), some (.inr (.inl (ge_f (jm_W σ (m / 10 % 10)) (jm_ct σ i) * σ 135 j - ge_f (jm_W σ (m / 10 % 10)) (jm_ct σ j) * σ 135 i))), none]) (st' := [.inl 2, .inr (.inr 101), .inl j, .inl i, .inr (.inr 57)]) rfl ?_
            refine jw_W_ia rfl rfl (by omega) (by omega) (by omega) ?_
            show jw_W (js_S n) _ md_131 15 [some (.inr (.inr 13)), some (.inl i), some (.inl j), some (.inl 2), some (.inr (.inl (ge_f (jm_W σ (m / 10 % 10)) (jm_ct σ i) * σ 135 j - ge_f (jm_W σ (m / 10 % 10)) (jm_ct σ j) * σ 135 i))), none] [.inl (σ 101 2), .inl j, .inl i, .inr (.inr 57)] σ _
            rw [hp2]
            have hl2 := jm_f_w hPm hcb (k := m % 10) (i := i) (j := j) (by omega) (by omega) i0 i1 j0 j1
            have hr2 := jm_f_w hPm hcb (k := m % 10) (i := j) (j := i) (by omega) (by omega) j0 j1 i0 i1
            refine jw_W_call (as := [.inr (.inr 57), .inl i, .inl j, .inl (m % 10)]) (rest := []) rfl rfl rfl rfl (Nat.le_of_ble_eq_true rfl) (.inr rfl) (jx_lead hI i0 i1 j0 j1 (by omega) (by omega)) (by omega) ?_ rfl
            rintro r1 σz ⟨rfl, hs⟩
            rw [hs]
            show jw_W (js_S n) _ md_131 16 [some (.inr (.inr 13)), some (.inl i), some (.inl j), some (.inl 2), some (.inr (.inl (ge_f (jm_W σ (m / 10 % 10)) (jm_ct σ i) * σ 135 j - ge_f (jm_W σ (m / 10 % 10)) (jm_ct σ j) * σ 135 i))), none] [.inr (.inl (ge_f (jm_W σ (m % 10)) (jm_ct σ i) * σ 135 j - ge_f (jm_W σ (m % 10)) (jm_ct σ j) * σ 135 i))] σ _
            refine jw_W_n 3 (i' := 19) (ls' := [some (.inr (.inr 13)), some (.inl i), some (.inl j), some (.inl 2), some (.inr (.inl (ge_f (jm_W σ (m % 10)) (jm_ct σ i) * σ 135 j - ge_f (jm_W σ (m % 10)) (jm_ct σ j) * σ 135 i))), none]) (st' := [.inr (.inl 0), .inr (.inl (ge_f (jm_W σ (m % 10)) (jm_ct σ i) * σ 135 j - ge_f (jm_W σ (m % 10)) (jm_ct σ j) * σ 135 i))]) rfl ?_
            refine jw_W_lc rfl rfl (by unfold jw_rgl; omega) (by unfold jw_rgl; omega) (fun hc6 => ?_) (fun hc6 => ?_)
            · have hc6 : (ge_f (jm_W σ (m % 10)) (jm_ct σ i) * σ 135 j - ge_f (jm_W σ (m % 10)) (jm_ct σ j) * σ 135 i) = 0 := hc6
              refine jw_W_n 4 (i' := 4) (ls' := [some (.inr (.inr 13)), some (.inl i), some (.inl j), some (.inl 3), some (.inr (.inl (ge_f (jm_W σ (m % 10)) (jm_ct σ i) * σ 135 j - ge_f (jm_W σ (m % 10)) (jm_ct σ j) * σ 135 i))), none]) (st' := [.inr (.inr 13), .inl 3]) rfl ?_
              refine jw_W_gf rfl rfl rfl ?_
              show jw_W (js_S n) _ md_131 5 [some (.inr (.inr 13)), some (.inl i), some (.inl j), some (.inl 3), some (.inr (.inl (ge_f (jm_W σ (m % 10)) (jm_ct σ i) * σ 135 j - ge_f (jm_W σ (m % 10)) (jm_ct σ j) * σ 135 i))), none] [.inr (.inr ((σ 13 2).toNat)), .inl 3] σ _
              rw [hto]
              refine jw_W_gf rfl hp.2.1 rfl ?_
              show jw_W (js_S n) _ md_131 6 [some (.inr (.inr 13)), some (.inl i), some (.inl j), some (.inl 3), some (.inr (.inl (ge_f (jm_W σ (m % 10)) (jm_ct σ i) * σ 135 j - ge_f (jm_W σ (m % 10)) (jm_ct σ j) * σ 135 i))), none] [.inl (σ o 1), .inl 3] σ _
              rw [hW]
              refine jw_W_ic rfl (by unfold jw_rg; omega) (by unfold jw_rg; omega) (fun hc7 => ?_) (fun hc7 => ?_)
              · clear hc7
                refine jw_W_n 1 (i' := 32) (ls' := [some (.inr (.inr 13)), some (.inl i), some (.inl j), some (.inl 3), some (.inr (.inl (ge_f (jm_W σ (m % 10)) (jm_ct σ i) * σ 135 j - ge_f (jm_W σ (m % 10)) (jm_ct σ j) * σ 135 i))), none]) (st' := [.inl 0]) rfl ?_
                refine jw_W_ir rfl ?_
                exact .inr ⟨rfl, rfl, show ¬ (ge_f (jm_W σ (m / 100 % 10)) (jm_ct σ j) * σ 135 i < ge_f (jm_W σ (m / 100 % 10)) (jm_ct σ i) * σ 135 j ∨ (¬ (ge_f (jm_W σ (m / 100 % 10)) (jm_ct σ i) * σ 135 j < ge_f (jm_W σ (m / 100 % 10)) (jm_ct σ j) * σ 135 i) ∧ (ge_f (jm_W σ (m / 10 % 10)) (jm_ct σ j) * σ 135 i < ge_f (jm_W σ (m / 10 % 10)) (jm_ct σ i) * σ 135 j ∨ (¬ (ge_f (jm_W σ (m / 10 % 10)) (jm_ct σ i) * σ 135 j < ge_f (jm_W σ (m / 10 % 10)) (jm_ct σ j) * σ 135 i) ∧ (ge_f (jm_W σ (m % 10)) (jm_ct σ j) * σ 135 i < ge_f (jm_W σ (m % 10)) (jm_ct σ i) * σ 135 j ∨ (¬ (ge_f (jm_W σ (m % 10)) (jm_ct σ i) * σ 135 j < ge_f (jm_W σ (m % 10)) (jm_ct σ j) * σ 135 i) ∧ False)))))) from by simp only [and_false, or_false]; omega⟩
              · exact absurd hc7 (show ¬ ¬ ((3 : Int) ≥ 3) by omega)
            · have hc6 : ¬ ((ge_f (jm_W σ (m % 10)) (jm_ct σ i) * σ 135 j - ge_f (jm_W σ (m % 10)) (jm_ct σ j) * σ 135 i) = 0) := hc6
              refine jw_W_n 2 (i' := 23) (ls' := [some (.inr (.inr 13)), some (.inl i), some (.inl j), some (.inl 2), some (.inr (.inl (ge_f (jm_W σ (m % 10)) (jm_ct σ i) * σ 135 j - ge_f (jm_W σ (m % 10)) (jm_ct σ j) * σ 135 i))), none]) (st' := [.inr (.inl 0), .inr (.inl (ge_f (jm_W σ (m % 10)) (jm_ct σ i) * σ 135 j - ge_f (jm_W σ (m % 10)) (jm_ct σ j) * σ 135 i))]) rfl ?_
              refine jw_W_lc rfl rfl (by unfold jw_rgl; omega) (by unfold jw_rgl; omega) (fun hc8 => ?_) (fun hc8 => ?_)
              · have hc8 : (ge_f (jm_W σ (m % 10)) (jm_ct σ i) * σ 135 j - ge_f (jm_W σ (m % 10)) (jm_ct σ j) * σ 135 i) ≤ 0 := hc8
                refine jw_W_n 1 (i' := 28) (ls' := [some (.inr (.inr 13)), some (.inl i), some (.inl j), some (.inl 2), some (.inr (.inl (ge_f (jm_W σ (m % 10)) (jm_ct σ i) * σ 135 j - ge_f (jm_W σ (m % 10)) (jm_ct σ j) * σ 135 i))), none]) (st' := [.inl 0]) rfl ?_
                refine jw_W_ir rfl ?_
                exact .inr ⟨rfl, rfl, show ¬ (ge_f (jm_W σ (m / 100 % 10)) (jm_ct σ j) * σ 135 i < ge_f (jm_W σ (m / 100 % 10)) (jm_ct σ i) * σ 135 j ∨ (¬ (ge_f (jm_W σ (m / 100 % 10)) (jm_ct σ i) * σ 135 j < ge_f (jm_W σ (m / 100 % 10)) (jm_ct σ j) * σ 135 i) ∧ (ge_f (jm_W σ (m / 10 % 10)) (jm_ct σ j) * σ 135 i < ge_f (jm_W σ (m / 10 % 10)) (jm_ct σ i) * σ 135 j ∨ (¬ (ge_f (jm_W σ (m / 10 % 10)) (jm_ct σ i) * σ 135 j < ge_f (jm_W σ (m / 10 % 10)) (jm_ct σ j) * σ 135 i) ∧ (ge_f (jm_W σ (m % 10)) (jm_ct σ j) * σ 135 i < ge_f (jm_W σ (m % 10)) (jm_ct σ i) * σ 135 j ∨ (¬ (ge_f (jm_W σ (m % 10)) (jm_ct σ i) * σ 135 j < ge_f (jm_W σ (m % 10)) (jm_ct σ j) * σ 135 i) ∧ False)))))) from by simp only [and_false, or_false]; omega⟩
              · have hc8 : ¬ ((ge_f (jm_W σ (m % 10)) (jm_ct σ i) * σ 135 j - ge_f (jm_W σ (m % 10)) (jm_ct σ j) * σ 135 i) ≤ 0) := hc8
                refine jw_W_n 2 (i' := 28) (ls' := [some (.inr (.inr 13)), some (.inl i), some (.inl j), some (.inl 2), some (.inr (.inl (ge_f (jm_W σ (m % 10)) (jm_ct σ i) * σ 135 j - ge_f (jm_W σ (m % 10)) (jm_ct σ j) * σ 135 i))), none]) (st' := [.inl 1]) rfl ?_
                refine jw_W_ir rfl ?_
                exact .inl ⟨rfl, rfl, show (ge_f (jm_W σ (m / 100 % 10)) (jm_ct σ j) * σ 135 i < ge_f (jm_W σ (m / 100 % 10)) (jm_ct σ i) * σ 135 j ∨ (¬ (ge_f (jm_W σ (m / 100 % 10)) (jm_ct σ i) * σ 135 j < ge_f (jm_W σ (m / 100 % 10)) (jm_ct σ j) * σ 135 i) ∧ (ge_f (jm_W σ (m / 10 % 10)) (jm_ct σ j) * σ 135 i < ge_f (jm_W σ (m / 10 % 10)) (jm_ct σ i) * σ 135 j ∨ (¬ (ge_f (jm_W σ (m / 10 % 10)) (jm_ct σ i) * σ 135 j < ge_f (jm_W σ (m / 10 % 10)) (jm_ct σ j) * σ 135 i) ∧ (ge_f (jm_W σ (m % 10)) (jm_ct σ j) * σ 135 i < ge_f (jm_W σ (m % 10)) (jm_ct σ i) * σ 135 j ∨ (¬ (ge_f (jm_W σ (m % 10)) (jm_ct σ i) * σ 135 j < ge_f (jm_W σ (m % 10)) (jm_ct σ j) * σ 135 i) ∧ False)))))) from by simp only [and_false, or_false]; omega⟩
        · have hc4 : ¬ ((ge_f (jm_W σ (m / 10 % 10)) (jm_ct σ i) * σ 135 j - ge_f (jm_W σ (m / 10 % 10)) (jm_ct σ j) * σ 135 i) = 0) := hc4
          refine jw_W_n 2 (i' := 23) (ls' := [some (.inr (.inr 13)), some (.inl i), some (.inl j), some (.inl 1), some (.inr (.inl (ge_f (jm_W σ (m / 10 % 10)) (jm_ct σ i) * σ 135 j - ge_f (jm_W σ (m / 10 % 10)) (jm_ct σ j) * σ 135 i))), none]) (st' := [.inr (.inl 0), .inr (.inl (ge_f (jm_W σ (m / 10 % 10)) (jm_ct σ i) * σ 135 j - ge_f (jm_W σ (m / 10 % 10)) (jm_ct σ j) * σ 135 i))]) rfl ?_
          refine jw_W_lc rfl rfl (by unfold jw_rgl; omega) (by unfold jw_rgl; omega) (fun hc9 => ?_) (fun hc9 => ?_)
          · have hc9 : (ge_f (jm_W σ (m / 10 % 10)) (jm_ct σ i) * σ 135 j - ge_f (jm_W σ (m / 10 % 10)) (jm_ct σ j) * σ 135 i) ≤ 0 := hc9
            refine jw_W_n 1 (i' := 28) (ls' := [some (.inr (.inr 13)), some (.inl i), some (.inl j), some (.inl 1), some (.inr (.inl (ge_f (jm_W σ (m / 10 % 10)) (jm_ct σ i) * σ 135 j - ge_f (jm_W σ (m / 10 % 10)) (jm_ct σ j) * σ 135 i))), none]) (st' := [.inl 0]) rfl ?_
            refine jw_W_ir rfl ?_
            exact .inr ⟨rfl, rfl, show ¬ (ge_f (jm_W σ (m / 100 % 10)) (jm_ct σ j) * σ 135 i < ge_f (jm_W σ (m / 100 % 10)) (jm_ct σ i) * σ 135 j ∨ (¬ (ge_f (jm_W σ (m / 100 % 10)) (jm_ct σ i) * σ 135 j < ge_f (jm_W σ (m / 100 % 10)) (jm_ct σ j) * σ 135 i) ∧ (ge_f (jm_W σ (m / 10 % 10)) (jm_ct σ j) * σ 135 i < ge_f (jm_W σ (m / 10 % 10)) (jm_ct σ i) * σ 135 j ∨ (¬ (ge_f (jm_W σ (m / 10 % 10)) (jm_ct σ i) * σ 135 j < ge_f (jm_W σ (m / 10 % 10)) (jm_ct σ j) * σ 135 i) ∧ (ge_f (jm_W σ (m % 10)) (jm_ct σ j) * σ 135 i < ge_f (jm_W σ (m % 10)) (jm_ct σ i) * σ 135 j ∨ (¬ (ge_f (jm_W σ (m % 10)) (jm_ct σ i) * σ 135 j < ge_f (jm_W σ (m % 10)) (jm_ct σ j) * σ 135 i) ∧ False)))))) from by simp only [and_false, or_false]; omega⟩
          · have hc9 : ¬ ((ge_f (jm_W σ (m / 10 % 10)) (jm_ct σ i) * σ 135 j - ge_f (jm_W σ (m / 10 % 10)) (jm_ct σ j) * σ 135 i) ≤ 0) := hc9
            refine jw_W_n 2 (i' := 28) (ls' := [some (.inr (.inr 13)), some (.inl i), some (.inl j), some (.inl 1), some (.inr (.inl (ge_f (jm_W σ (m / 10 % 10)) (jm_ct σ i) * σ 135 j - ge_f (jm_W σ (m / 10 % 10)) (jm_ct σ j) * σ 135 i))), none]) (st' := [.inl 1]) rfl ?_
            refine jw_W_ir rfl ?_
            exact .inl ⟨rfl, rfl, show (ge_f (jm_W σ (m / 100 % 10)) (jm_ct σ j) * σ 135 i < ge_f (jm_W σ (m / 100 % 10)) (jm_ct σ i) * σ 135 j ∨ (¬ (ge_f (jm_W σ (m / 100 % 10)) (jm_ct σ i) * σ 135 j < ge_f (jm_W σ (m / 100 % 10)) (jm_ct σ j) * σ 135 i) ∧ (ge_f (jm_W σ (m / 10 % 10)) (jm_ct σ j) * σ 135 i < ge_f (jm_W σ (m / 10 % 10)) (jm_ct σ i) * σ 135 j ∨ (¬ (ge_f (jm_W σ (m / 10 % 10)) (jm_ct σ i) * σ 135 j < ge_f (jm_W σ (m / 10 % 10)) (jm_ct σ j) * σ 135 i) ∧ (ge_f (jm_W σ (m % 10)) (jm_ct σ j) * σ 135 i < ge_f (jm_W σ (m % 10)) (jm_ct σ i) * σ 135 j ∨ (¬ (ge_f (jm_W σ (m % 10)) (jm_ct σ i) * σ 135 j < ge_f (jm_W σ (m % 10)) (jm_ct σ j) * σ 135 i) ∧ False)))))) from by simp only [and_false, or_false]; omega⟩
    · have hc2 : ¬ ((ge_f (jm_W σ (m / 100 % 10)) (jm_ct σ i) * σ 135 j - ge_f (jm_W σ (m / 100 % 10)) (jm_ct σ j) * σ 135 i) = 0) := hc2
      refine jw_W_n 2 (i' := 23) (ls' := [some (.inr (.inr 13)), some (.inl i), some (.inl j), some (.inl 0), some (.inr (.inl (ge_f (jm_W σ (m / 100 % 10)) (jm_ct σ i) * σ 135 j - ge_f (jm_W σ (m / 100 % 10)) (jm_ct σ j) * σ 135 i))), none]) (st' := [.inr (.inl 0), .inr (.inl (ge_f (jm_W σ (m / 100 % 10)) (jm_ct σ i) * σ 135 j - ge_f (jm_W σ (m / 100 % 10)) (jm_ct σ j) * σ 135 i))]) rfl ?_
      refine jw_W_lc rfl rfl (by unfold jw_rgl; omega) (by unfold jw_rgl; omega) (fun hc10 => ?_) (fun hc10 => ?_)
      · have hc10 : (ge_f (jm_W σ (m / 100 % 10)) (jm_ct σ i) * σ 135 j - ge_f (jm_W σ (m / 100 % 10)) (jm_ct σ j) * σ 135 i) ≤ 0 := hc10
        refine jw_W_n 1 (i' := 28) (ls' := [some (.inr (.inr 13)), some (.inl i), some (.inl j), some (.inl 0), some (.inr (.inl (ge_f (jm_W σ (m / 100 % 10)) (jm_ct σ i) * σ 135 j - ge_f (jm_W σ (m / 100 % 10)) (jm_ct σ j) * σ 135 i))), none]) (st' := [.inl 0]) rfl ?_
        refine jw_W_ir rfl ?_
        exact .inr ⟨rfl, rfl, show ¬ (ge_f (jm_W σ (m / 100 % 10)) (jm_ct σ j) * σ 135 i < ge_f (jm_W σ (m / 100 % 10)) (jm_ct σ i) * σ 135 j ∨ (¬ (ge_f (jm_W σ (m / 100 % 10)) (jm_ct σ i) * σ 135 j < ge_f (jm_W σ (m / 100 % 10)) (jm_ct σ j) * σ 135 i) ∧ (ge_f (jm_W σ (m / 10 % 10)) (jm_ct σ j) * σ 135 i < ge_f (jm_W σ (m / 10 % 10)) (jm_ct σ i) * σ 135 j ∨ (¬ (ge_f (jm_W σ (m / 10 % 10)) (jm_ct σ i) * σ 135 j < ge_f (jm_W σ (m / 10 % 10)) (jm_ct σ j) * σ 135 i) ∧ (ge_f (jm_W σ (m % 10)) (jm_ct σ j) * σ 135 i < ge_f (jm_W σ (m % 10)) (jm_ct σ i) * σ 135 j ∨ (¬ (ge_f (jm_W σ (m % 10)) (jm_ct σ i) * σ 135 j < ge_f (jm_W σ (m % 10)) (jm_ct σ j) * σ 135 i) ∧ False)))))) from by simp only [and_false, or_false]; omega⟩
      · have hc10 : ¬ ((ge_f (jm_W σ (m / 100 % 10)) (jm_ct σ i) * σ 135 j - ge_f (jm_W σ (m / 100 % 10)) (jm_ct σ j) * σ 135 i) ≤ 0) := hc10
        refine jw_W_n 2 (i' := 28) (ls' := [some (.inr (.inr 13)), some (.inl i), some (.inl j), some (.inl 0), some (.inr (.inl (ge_f (jm_W σ (m / 100 % 10)) (jm_ct σ i) * σ 135 j - ge_f (jm_W σ (m / 100 % 10)) (jm_ct σ j) * σ 135 i))), none]) (st' := [.inl 1]) rfl ?_
        refine jw_W_ir rfl ?_
        exact .inl ⟨rfl, rfl, show (ge_f (jm_W σ (m / 100 % 10)) (jm_ct σ j) * σ 135 i < ge_f (jm_W σ (m / 100 % 10)) (jm_ct σ i) * σ 135 j ∨ (¬ (ge_f (jm_W σ (m / 100 % 10)) (jm_ct σ i) * σ 135 j < ge_f (jm_W σ (m / 100 % 10)) (jm_ct σ j) * σ 135 i) ∧ (ge_f (jm_W σ (m / 10 % 10)) (jm_ct σ j) * σ 135 i < ge_f (jm_W σ (m / 10 % 10)) (jm_ct σ i) * σ 135 j ∨ (¬ (ge_f (jm_W σ (m / 10 % 10)) (jm_ct σ i) * σ 135 j < ge_f (jm_W σ (m / 10 % 10)) (jm_ct σ j) * σ 135 i) ∧ (ge_f (jm_W σ (m % 10)) (jm_ct σ j) * σ 135 i < ge_f (jm_W σ (m % 10)) (jm_ct σ i) * σ 135 j ∨ (¬ (ge_f (jm_W σ (m % 10)) (jm_ct σ i) * σ 135 j < ge_f (jm_W σ (m % 10)) (jm_ct σ j) * σ 135 i) ∧ False)))))) from by simp only [and_false, or_false]; omega⟩
theorem jx_isAheadO {n o : Nat} {C : List (ge_R × Int)} {σ : jw_H} (hK : jx_K n o C σ) {i j : Int} (i0 : 0 ≤ i) (i1 : i < σ 103 56) (j0 : 0 ≤ j) (j1 : j < σ 103 56) {m : Int} (hm : jn_okW (σ 103 4) m) (hpl : jn_pls σ (σ 103 4) m) : jw_T (js_S n) 4 131 [.inr (.inr 13), .inl i, .inl j] σ (fun r σ' => (r = some (.inl 1) ∧ σ' = σ ∧ (jn_ah σ (jn_dsW (σ 103 4) m) i j)) ∨ (r = some (.inl 0) ∧ σ' = σ ∧ ¬ (jn_ah σ (jn_dsW (σ 103 4) m) i j))) := by
  rcases (show σ 103 4 = 1 ∨ σ 103 4 = 2 ∨ σ 103 4 = 3 by unfold jn_okW at hm; omega) with h | h | h
  · rw [h] at hm hpl ⊢
    exact jx_isAhead_1 hK i0 i1 j0 j1 h hm hpl
  · rw [h] at hm hpl ⊢
    exact jx_isAhead_2 hK i0 i1 j0 j1 h hm hpl
  · rw [h] at hm hpl ⊢
    exact jx_isAhead_3 hK i0 i1 j0 j1 h hm hpl
theorem jx_behind_loop {n : Nat} {σ : jw_H} {D : Nat} (hD : 4 ≤ D) {o : Nat} {C : List (ge_R × Int)} (hK : jx_K n o C σ) {m : Int} {ds : List Int} (hAH : ∀ i j, 0 ≤ i → i < σ 103 56 → 0 ≤ j → j < σ 103 56 → jw_T (js_S n) 4 131 [.inr (.inr 13), .inl i, .inl j] σ (fun r σ' => (r = some (.inl 1) ∧ σ' = σ ∧ (jn_ah σ ds i j)) ∨ (r = some (.inl 0) ∧ σ' = σ ∧ ¬ (jn_ah σ ds i j)))) : ∀ (g : Nat) {i f : Int}, 1 ≤ i → i + g = σ 103 56 → (0 ≤ f ∧ f < i) → (∀ c, 0 ≤ c → c < i → ¬ jn_ah σ ds c f ∧ (c < f → jn_ah σ ds f c)) → jw_W (js_S n) D md_129 16 [some (.inr (.inr 13)), some (.inl m), some (.inl f), some (.inl i)] [] σ (fun r σ' => ∃ v, r = some (.inl v) ∧ σ' = σ ∧ (0 ≤ v ∧ v < σ 103 56) ∧ (∀ j, 0 ≤ j → j < σ 103 56 → ¬ jn_ah σ ds j v) ∧ ∀ i, 0 ≤ i → i < v → ∃ j, 0 ≤ j ∧ j < σ 103 56 ∧ jn_ah σ ds j i)
  | g, i, f, i0, hk, hf, H => by
    have ih : ∀ {f' : Int}, i < σ 103 56 → (0 ≤ f' ∧ f' < i + 1) → (∀ c, 0 ≤ c → c < i + 1 → ¬ jn_ah σ ds c f' ∧ (c < f' → jn_ah σ ds f' c)) → jw_W (js_S n) D md_129 16 [some (.inr (.inr 13)), some (.inl m), some (.inl f'), some (.inl (i + 1))] [] σ (fun r σ' => ∃ v, r = some (.inl v) ∧ σ' = σ ∧ (0 ≤ v ∧ v < σ 103 56) ∧ (∀ j, 0 ≤ j → j < σ 103 56 → ¬ jn_ah σ ds j v) ∧ ∀ i, 0 ≤ i → i < v → ∃ j, 0 ≤ j ∧ j < σ 103 56 ∧ jn_ah σ ds j i) := by
      intro f' h1 h2 h3
      match g, hk with
      | 0, hk => omega
      | g + 1, hk => exact jx_behind_loop hD hK hAH g (by omega) (by omega) h2 h3
    have hI := hK.1
    obtain ⟨hto, hfo, hp, hP, e0, e1, e2, hPm, hcb, c0, p0, -⟩ := jx_I0_x hI
    have ho := hp.1
    have hq := hP.1
    have hw := hP.2.1
    have hq2 := hP.2.2.1
    have hcn := hcb.1
    have hf0 : 0 ≤ f ∧ f < σ 103 56 := by omega
    refine jw_W_n 2 (i' := 18) (ls' := [some (.inr (.inr 13)), some (.inl m), some (.inl f), some (.inl i)]) (st' := [.inr (.inr 13), .inl i]) rfl ?_
    refine jw_W_gf rfl rfl rfl ?_
    show jw_W (js_S n) _ md_129 19 [some (.inr (.inr 13)), some (.inl m), some (.inl f), some (.inl i)] [.inr (.inr 57), .inl i] σ _
    refine jw_W_gf rfl rfl rfl ?_
    show jw_W (js_S n) _ md_129 20 [some (.inr (.inr 13)), some (.inl m), some (.inl f), some (.inl i)] [.inl (σ 57 0), .inl i] σ _
    refine jw_W_ic rfl (by unfold jw_rg; omega) (by unfold jw_rg; omega) (fun hc1 => ?_) (fun hc1 => ?_)
    · have hc1 : i ≥ (σ 57 0) := hc1
      refine jw_W_n 1 (i' := 31) (ls' := [some (.inr (.inr 13)), some (.inl m), some (.inl f), some (.inl i)]) (st' := [.inl f]) rfl ?_
      refine jw_W_ir rfl ?_
      have hkl : i = σ 103 56 := by omega
      subst hkl
      exact ⟨_, rfl, rfl, hf0, fun j h0 h1 => (H j h0 h1).1, fun c h0 h1 => ⟨f, hf0.1, hf0.2, (H c h0 (by omega)).2 h1⟩⟩
    · have hc1 : ¬ (i ≥ (σ 57 0)) := hc1
      refine jw_W_n 3 (i' := 24) (ls' := [some (.inr (.inr 13)), some (.inl m), some (.inl f), some (.inl i)]) (st' := [.inl f, .inl i, .inr (.inr 13)]) rfl ?_
      refine jw_W_call (as := [.inr (.inr 13), .inl i, .inl f]) (rest := []) rfl rfl rfl rfl (Nat.le_of_ble_eq_true rfl) (.inr rfl) (hAH i f (by omega) (by omega) hf0.1 hf0.2) (by omega) ?_ rfl
      rintro r1 σz (⟨rfl, hs, hah⟩ | ⟨rfl, hs, hah⟩)
      · rw [hs]
        show jw_W (js_S n) _ md_129 25 [some (.inr (.inr 13)), some (.inl m), some (.inl f), some (.inl i)] [.inl 1] σ _
        refine jw_W_if rfl (by unfold jw_rg; omega) (fun hc2 => ?_) (fun hc2 => ?_)
        · exact absurd hc2 (show ¬ ((1 : Int) = 0) by omega)
        · clear hc2
          refine jw_W_n 4 (i' := 16) (ls' := [some (.inr (.inr 13)), some (.inl m), some (.inl i), some (.inl (i + 1))]) (st' := []) rfl ?_
          refine ih (by omega) (by omega) (fun c c0 c1 => ?_)
          by_cases ec : c = i
          · rw [ec]
            exact ⟨jn_ah_ir σ ds i, fun hh => by omega⟩
          · have h3 := H c c0 (by omega)
            have h4 := jn_ah_nt hcb (i := i) (j := c) (k := f) (by omega) (by omega) (by omega) hah
            have h5 : jn_ah σ ds i c := h4.resolve_right h3.1
            exact ⟨jn_ah_as h5, fun _ => h5⟩
      · rw [hs]
        show jw_W (js_S n) _ md_129 25 [some (.inr (.inr 13)), some (.inl m), some (.inl f), some (.inl i)] [.inl 0] σ _
        refine jw_W_if rfl (by unfold jw_rg; omega) (fun hc3 => ?_) (fun hc3 => ?_)
        · clear hc3
          refine jw_W_n 2 (i' := 16) (ls' := [some (.inr (.inr 13)), some (.inl m), some (.inl f), some (.inl (i + 1))]) (st' := []) rfl ?_
          refine ih (by omega) (by omega) (fun c c0 c1 => ?_)
          by_cases ec : c = i
          · rw [ec]
            exact ⟨hah, fun hh => by omega⟩
          · exact H c c0 (by omega)
        · exact absurd hc3 (show ¬ ¬ ((0 : Int) = 0) by omega)
theorem jx_behind {n : Nat} {σ : jw_H} {o : Nat} {C : List (ge_R × Int)} (hK : jx_K n o C σ) {m : Int} (hm : jw_rg m) : jw_T (js_S n) 6 129 [.inr (.inr 13), .inl m] σ (fun r σ' => ∃ v, r = some (.inl v) ∧ jx_fy σ σ' ∧ jn_bha σ m v) := by
  refine jw_T_of (D := 5) (M := mm_129) rfl (Nat.le_of_ble_eq_true rfl) (ls0 := [some (.inr (.inr 13)), some (.inl m), none, none]) rfl ?_ (by rintro _ _ ⟨_, rfl, -⟩; rfl)
  have hI := hK.1
  obtain ⟨hto, hfo, hp, hP, e0, e1, e2, hPm, hcb, c0, p0, -⟩ := jx_I0_x hI
  have ho := hp.1
  have hq := hP.1
  have hw := hP.2.1
  have hq2 := hP.2.2.1
  have hcn := hcb.1
  have rhm := hm
  unfold jw_rg at rhm
  refine jw_W_n 2 (i' := 2) (ls' := [some (.inr (.inr 13)), some (.inl m), none, none]) (st' := [.inl m, .inr (.inr 13)]) rfl ?_
  refine jw_W_call (as := [.inr (.inr 13), .inl m]) (rest := []) rfl rfl rfl rfl (Nat.le_of_ble_eq_true rfl) (.inr rfl) (jx_readOrder hK hm) (by omega) ?_ rfl
  rintro r1 σ1 ⟨u, rfl, hf1, hu⟩
  have hu01 : u = 0 ∨ u = 1 := by rcases hu with hh | hh; exact .inr hh.1; exact .inl hh.1
  have hK1 := jx_K_y hf1 hK
  have hx1 := jx_I0_x hK1.1
  have hme1 := jx_fx_me (jx_fy_x hf1)
  have e103 := hme1 103 (by omega)
  have e56 : σ1 103 56 = σ 103 56 := by rw [e103]
  have e57 := hx1.2.2.2.2.2.2.2.2.2.1
  show jw_W (js_S n) _ md_129 3 [some (.inr (.inr 13)), some (.inl m), none, none] [.inl u] σ1 _
  refine jw_W_if rfl (by unfold jw_rg; omega) (fun hc1 => ?_) (fun hc1 => ?_)
  · have hc1 : u ≠ 0 := hc1
    refine jw_W_n 1 (i' := 7) (ls' := [some (.inr (.inr 13)), some (.inl m), none, none]) (st' := [.inr (.inr 13)]) rfl ?_
    refine jw_W_gf rfl rfl rfl ?_
    show jw_W (js_S n) _ md_129 8 [some (.inr (.inr 13)), some (.inl m), none, none] [.inr (.inr 57)] σ1 _
    refine jw_W_gf rfl rfl rfl ?_
    show jw_W (js_S n) _ md_129 9 [some (.inr (.inr 13)), some (.inl m), none, none] [.inl (σ1 57 0)] σ1 _
    refine jw_W_if rfl (by unfold jw_rg; omega) (fun hc2 => ?_) (fun hc2 => ?_)
    · have hc2 : (σ1 57 0) ≠ 0 := hc2
      refine jw_W_n 4 (i' := 16) (ls' := [some (.inr (.inr 13)), some (.inl m), some (.inl 0), some (.inl 1)]) (st' := []) rfl ?_
      obtain ⟨-, hok, hpl⟩ := hu.resolve_right (fun hh => by omega)
      have e4 : σ1 103 4 = σ 103 4 := by rw [e103]
      have hok1 : jn_okW (σ1 103 4) m := by rw [e4]; exact hok
      have hpl1 : jn_pls σ1 (σ1 103 4) m := by rw [e4]; exact hpl
      refine jw_W_mono (jx_behind_loop (D := 5) (by omega) hK1 (ds := jn_dsW (σ1 103 4) m) (fun a b h1 h2 h3 h4 => jx_isAheadO hK1 h1 h2 h3 h4 hok1 hpl1) (σ1 103 56 - 1).toNat (i := 1) (f := 0) (by omega) (by omega) (by omega) (fun c c0 c1 => by rw [show c = 0 by omega]; exact ⟨jn_ah_ir _ _ _, fun hh => by omega⟩)) ?_
      rintro r σ' ⟨v, rfl, hs, hv⟩
      rw [hs]
      exact ⟨_, rfl, hf1, (jn_bha_me hme1 m v).mp (.inr ⟨hok1, .inr hv⟩)⟩
    · have hc2 : (σ1 57 0) = 0 := Classical.not_not.mp hc2
      refine jw_W_n 1 (i' := 11) (ls' := [some (.inr (.inr 13)), some (.inl m), none, none]) (st' := [.inl ((-2))]) rfl ?_
      refine jw_W_ir rfl ?_
      exact ⟨_, rfl, hf1, .inr ⟨(hu.resolve_right (fun hh => by omega)).2.1, .inl ⟨rfl, by omega⟩⟩⟩
  · have hc1 : u = 0 := Classical.not_not.mp hc1
    refine jw_W_n 1 (i' := 5) (ls' := [some (.inr (.inr 13)), some (.inl m), none, none]) (st' := [.inl ((-1))]) rfl ?_
    refine jw_W_ir rfl ?_
    exact ⟨_, rfl, hf1, .inl ⟨rfl, (hu.resolve_left (fun hh => by omega)).2⟩⟩

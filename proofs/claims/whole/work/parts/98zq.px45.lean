/-! ===== better and gain of the class, the answers ===== -/
theorem jx_dr6 {j : Int} (j0 : 0 ≤ j) (j1 : j < 6) : jw_div j 2 = j / 2 ∧ jw_rem j 2 = j % 2 ∧ (j % 2 = 0 ∨ j % 2 = 1) ∧ 0 ≤ j / 2 ∧ j / 2 ≤ 2 := by
  rcases (show j = 0 ∨ j = 1 ∨ j = 2 ∨ j = 3 ∨ j = 4 ∨ j = 5 by omega) with rfl | rfl | rfl | rfl | rfl | rfl <;> decide
theorem jm_co_bd {u : ge_R} (h : jx_bd u) (q : Int) : -1458 ≤ jm_co u q ∧ jm_co u q ≤ 1458 := by
  unfold jx_bd at h
  unfold jm_co
  split
  · omega
  · split <;> omega
theorem jx_fr_j {u l j : Int} (h : 0 < l) (hj : j = 0 ∨ j = 1) : (if j = 0 then (jx_fr u l).1 else (jx_fr u l).2) = jm_of u l j := by
  have ee := jx_fr_of (u := u) h
  rcases hj with e | e
  · rw [e, if_pos rfl]
    exact ee.1
  · rw [e, if_neg (by decide)]
    exact ee.2
theorem jx_better {n : Nat} {σ : jw_H} {o : Nat} {C : List (ge_R × Int)} (hK : jx_K n o C σ) {x y z j : Int} (r_x : jw_rg x) (r_y : jw_rg y) (r_z : jw_rg z) (r_j : jw_rg j) : jw_T (js_S n) 10 135 [.inr (.inr 13), .inl x, .inl y, .inl z, .inl j] σ (fun r σ' => ∃ v, r = some (.inr (.inl v)) ∧ jx_fy σ σ' ∧ jm_bta σ x y z j v) := by
  refine jw_T_of (D := 9) (M := mm_135) rfl (Nat.le_of_ble_eq_true rfl) (ls0 := [some (.inr (.inr 13)), some (.inl x), some (.inl y), some (.inl z), some (.inl j), none]) rfl ?_ (by rintro _ _ ⟨_, rfl, -⟩; rfl)
  have hI := hK.1
  obtain ⟨hto, hfo, hp, hP, e0, e1, e2, hPm, hcb, c0, p0, -⟩ := jx_I0_x hI
  have ho := hp.1
  have hq := hP.1
  have hw := hP.2.1
  have hq2 := hP.2.2.1
  have hcn := hcb.1
  refine jw_W_n 4 (i' := 4) (ls' := [some (.inr (.inr 13)), some (.inl x), some (.inl y), some (.inl z), some (.inl j), none]) (st' := [.inl z, .inl y, .inl x, .inr (.inr 13)]) rfl ?_
  refine jw_W_call (as := [.inr (.inr 13), .inl x, .inl y, .inl z]) (rest := []) rfl rfl rfl rfl (Nat.le_of_ble_eq_true rfl) (.inr rfl) (jx_isWholePlan hK r_x r_y r_z) (by omega) ?_ rfl
  rintro r1 σz (⟨rfl, hs, hip⟩ | ⟨rfl, hs, hip⟩)
  · rw [hs]
    show jw_W (js_S n) _ md_135 5 [some (.inr (.inr 13)), some (.inl x), some (.inl y), some (.inl z), some (.inl j), none] [.inl 1] σ _
    refine jw_W_if rfl (by unfold jw_rg; omega) (fun hc1 => ?_) (fun hc1 => ?_)
    · exact absurd hc1 (show ¬ ((1 : Int) = 0) by omega)
    · clear hc1
      refine jw_W_n 2 (i' := 8) (ls' := [some (.inr (.inr 13)), some (.inl x), some (.inl y), some (.inl z), some (.inl j), none]) (st' := [.inl j, .inr (.inr 13)]) rfl ?_
      refine jw_W_call (as := [.inr (.inr 13), .inl j]) (rest := []) rfl rfl rfl rfl (Nat.le_of_ble_eq_true rfl) (.inr rfl) (jx_isPartOfPlan hK r_j) (by omega) ?_ rfl
      rintro r1 σz (⟨rfl, hs, q1⟩ | ⟨rfl, hs, q1⟩)
      · rw [hs]
        show jw_W (js_S n) _ md_135 9 [some (.inr (.inr 13)), some (.inl x), some (.inl y), some (.inl z), some (.inl j), none] [.inl 1] σ _
        refine jw_W_if rfl (by unfold jw_rg; omega) (fun hc2 => ?_) (fun hc2 => ?_)
        · clear hc2
          have hdr := jx_dr6 (j := j) (by omega) (by omega)
          refine jw_W_n 4 (i' := 16) (ls' := [some (.inr (.inr 13)), some (.inl x), some (.inl y), some (.inl z), some (.inl j), none]) (st' := [.inl z, .inl y, .inl x, .inr (.inr 13)]) rfl ?_
          refine jw_W_call (as := [.inr (.inr 13), .inl x, .inl y, .inl z]) (rest := []) rfl rfl rfl rfl (Nat.le_of_ble_eq_true rfl) (.inr rfl) (jx_betterPoint hK hip) (by omega) ?_ rfl
          rintro r1 σ1 (⟨rfl, hf, hF⟩ | ⟨b, rfl, hf, hF, hb64, hbd, hbp, hG⟩)
          · show jw_W (js_S n) _ md_135 17 [some (.inr (.inr 13)), some (.inl x), some (.inl y), some (.inl z), some (.inl j), none] [.inl ((-1))] σ1 _
            refine jw_W_n 2 (i' := 19) (ls' := [some (.inr (.inr 13)), some (.inl x), some (.inl y), some (.inl z), some (.inl j), some (.inl ((-1)))]) (st' := [.inl ((-1))]) rfl ?_
            refine jw_W_if rfl (by unfold jw_rg; omega) (fun hc3 => ?_) (fun hc3 => ?_)
            · exact absurd hc3 (show ¬ ((((-1 : Int))) ≥ 0) by omega)
            · clear hc3
              refine jw_W_ld2 (z := (-2)) rfl rfl ?_
              refine jw_W_n 1 (i' := 43) (ls' := [some (.inr (.inr 13)), some (.inl x), some (.inl y), some (.inl z), some (.inl j), some (.inl ((-1)))]) (st' := [.inr (.inl ((-2)))]) rfl ?_
              refine jw_W_lr rfl ?_
              first | omega | exact ⟨_, rfl, hf, .inr ⟨⟨hip, by omega⟩, .inl ⟨rfl, hF⟩⟩⟩
          · have hbd4 : 0 < σ1 52 b ∧ σ1 52 b ≤ 162 := hbd.2.2.2
            show jw_W (js_S n) _ md_135 17 [some (.inr (.inr 13)), some (.inl x), some (.inl y), some (.inl z), some (.inl j), none] [.inl b] σ1 _
            refine jw_W_n 2 (i' := 19) (ls' := [some (.inr (.inr 13)), some (.inl x), some (.inl y), some (.inl z), some (.inl j), some (.inl b)]) (st' := [.inl b]) rfl ?_
            refine jw_W_if rfl (by unfold jw_rg; omega) (fun hc4 => ?_) (fun hc4 => ?_)
            · have hc4 : b ≥ 0 := hc4
              refine jw_W_n 2 (i' := 24) (ls' := [some (.inr (.inr 13)), some (.inl x), some (.inl y), some (.inl z), some (.inl j), some (.inl b)]) (st' := [.inr (.inr 13), .inr (.inr 13)]) rfl ?_
              refine jw_W_gf rfl rfl rfl ?_
              show jw_W (js_S n) _ md_135 25 [some (.inr (.inr 13)), some (.inl x), some (.inl y), some (.inl z), some (.inl j), some (.inl b)] [.inr (.inr 47), .inr (.inr 13)] σ1 _
              refine jw_W_gf rfl rfl rfl ?_
              show jw_W (js_S n) _ md_135 26 [some (.inr (.inr 13)), some (.inl x), some (.inl y), some (.inl z), some (.inl j), some (.inl b)] [.inr (.inr 48), .inr (.inr 13)] σ1 _
              refine jw_W_n 3 (i' := 29) (ls' := [some (.inr (.inr 13)), some (.inl x), some (.inl y), some (.inl z), some (.inl j), some (.inl b)]) (st' := [.inl 2, .inl j, .inl b, .inr (.inr 48), .inr (.inr 13)]) rfl ?_
              refine jw_W_idiv rfl (by unfold jw_rg; omega) (by omega) ?_
              refine jw_W_call (as := [.inr (.inr 48), .inl b, .inl (jw_div j 2)]) (rest := [.inr (.inr 13)]) rfl rfl rfl rfl (Nat.le_of_ble_eq_true rfl) (.inr rfl) (jx_at (jx_pp_48 n) (by omega) (by omega) (by unfold jw_rg; omega)) (by omega) ?_ rfl
              rintro r1 σz ⟨rfl, hs⟩
              rw [hs]
              have hco := jm_co_bd hbd (jw_div j 2)
              show jw_W (js_S n) _ md_135 31 [some (.inr (.inr 13)), some (.inl x), some (.inl y), some (.inl z), some (.inl j), some (.inl b)] [.inl (jm_co (jx_pt σ1 48 b) (jw_div j 2)), .inr (.inr 13)] σ1 _
              refine jw_W_i2l rfl (by unfold jw_rg; omega) ?_
              refine jw_W_n 1 (i' := 33) (ls' := [some (.inr (.inr 13)), some (.inl x), some (.inl y), some (.inl z), some (.inl j), some (.inl b)]) (st' := [.inr (.inr 13), .inr (.inl (jm_co (jx_pt σ1 48 b) (jw_div j 2))), .inr (.inr 13)]) rfl ?_
              refine jw_W_gf rfl rfl rfl ?_
              show jw_W (js_S n) _ md_135 34 [some (.inr (.inr 13)), some (.inl x), some (.inl y), some (.inl z), some (.inl j), some (.inl b)] [.inr (.inr 47), .inr (.inl (jm_co (jx_pt σ1 48 b) (jw_div j 2))), .inr (.inr 13)] σ1 _
              refine jw_W_gf rfl rfl rfl ?_
              show jw_W (js_S n) _ md_135 35 [some (.inr (.inr 13)), some (.inl x), some (.inl y), some (.inl z), some (.inl j), some (.inl b)] [.inr (.inr 48), .inr (.inl (jm_co (jx_pt σ1 48 b) (jw_div j 2))), .inr (.inr 13)] σ1 _
              refine jw_W_gf rfl rfl rfl ?_
              show jw_W (js_S n) _ md_135 36 [some (.inr (.inr 13)), some (.inl x), some (.inl y), some (.inl z), some (.inl j), some (.inl b)] [.inr (.inr 52), .inr (.inl (jm_co (jx_pt σ1 48 b) (jw_div j 2))), .inr (.inr 13)] σ1 _
              refine jw_W_n 1 (i' := 37) (ls' := [some (.inr (.inr 13)), some (.inl x), some (.inl y), some (.inl z), some (.inl j), some (.inl b)]) (st' := [.inl b, .inr (.inr 52), .inr (.inl (jm_co (jx_pt σ1 48 b) (jw_div j 2))), .inr (.inr 13)]) rfl ?_
              refine jw_W_ia rfl rfl (by omega) (by omega) (by omega) ?_
              show jw_W (js_S n) _ md_135 38 [some (.inr (.inr 13)), some (.inl x), some (.inl y), some (.inl z), some (.inl j), some (.inl b)] [.inl (σ1 52 b), .inr (.inl (jm_co (jx_pt σ1 48 b) (jw_div j 2))), .inr (.inr 13)] σ1 _
              refine jw_W_i2l rfl (by unfold jw_rg; omega) ?_
              refine jw_W_n 2 (i' := 41) (ls' := [some (.inr (.inr 13)), some (.inl x), some (.inl y), some (.inl z), some (.inl j), some (.inl b)]) (st' := [.inl 2, .inl j, .inr (.inl (σ1 52 b)), .inr (.inl (jm_co (jx_pt σ1 48 b) (jw_div j 2))), .inr (.inr 13)]) rfl ?_
              refine jw_W_irem rfl (by unfold jw_rg; omega) (by omega) ?_
              refine jw_W_call (as := [.inr (.inr 13), .inr (.inl (jm_co (jx_pt σ1 48 b) (jw_div j 2))), .inr (.inl (σ1 52 b)), .inl (jw_rem j 2)]) (rest := []) rfl rfl rfl rfl (Nat.le_of_ble_eq_true rfl) (.inr rfl) (jx_partOf (by unfold jm_bg; omega) (by unfold jm_bg; omega) (by omega) (by unfold jw_rg; omega)) (by omega) ?_ rfl
              rintro r1 σ2 ⟨rfl, hs⟩
              have hf98 : jx_fy σ σ2 := by rw [hs]; exact jx_fy_fs hf (by omega)
              show jw_W (js_S n) _ md_135 43 [some (.inr (.inr 13)), some (.inl x), some (.inl y), some (.inl z), some (.inl j), some (.inl b)] [.inr (.inl (if jw_rem j 2 = 0 then (jx_fr (jm_co (jx_pt σ1 48 b) (jw_div j 2)) (σ1 52 b)).1 else (jx_fr (jm_co (jx_pt σ1 48 b) (jw_div j 2)) (σ1 52 b)).2))] σ2 _
              refine jw_W_lr rfl ?_
              refine ⟨_, rfl, hf98, .inr ⟨⟨hip, by omega, by omega⟩, .inr ⟨hF, _, hbp, ?_⟩⟩⟩
              rw [hdr.1, hdr.2.1]
              exact jx_fr_j hbd4.1 hdr.2.2.1
            · have hc4 : ¬ (b ≥ 0) := hc4
              refine jw_W_ld2 (z := (-2)) rfl rfl ?_
              refine jw_W_n 1 (i' := 43) (ls' := [some (.inr (.inr 13)), some (.inl x), some (.inl y), some (.inl z), some (.inl j), some (.inl b)]) (st' := [.inr (.inl ((-2)))]) rfl ?_
              refine jw_W_lr rfl ?_
              first | omega | exact ⟨_, rfl, hf, .inr ⟨⟨hip, by omega⟩, .inl ⟨rfl, hF⟩⟩⟩
        · exact absurd hc2 (show ¬ ¬ ((1 : Int) ≠ 0) by omega)
      · rw [hs]
        show jw_W (js_S n) _ md_135 9 [some (.inr (.inr 13)), some (.inl x), some (.inl y), some (.inl z), some (.inl j), none] [.inl 0] σ _
        refine jw_W_if rfl (by unfold jw_rg; omega) (fun hc5 => ?_) (fun hc5 => ?_)
        · exact absurd hc5 (show ¬ ((0 : Int) ≠ 0) by omega)
        · clear hc5
          refine jw_W_ld2 (z := (-1)) rfl rfl ?_
          refine jw_W_lr rfl ?_
          exact ⟨_, rfl, jx_fy_rf σ, .inl ⟨rfl, fun hh => by first | exact hip hh.1 | omega⟩⟩
  · rw [hs]
    show jw_W (js_S n) _ md_135 5 [some (.inr (.inr 13)), some (.inl x), some (.inl y), some (.inl z), some (.inl j), none] [.inl 0] σ _
    refine jw_W_if rfl (by unfold jw_rg; omega) (fun hc6 => ?_) (fun hc6 => ?_)
    · clear hc6
      refine jw_W_ld2 (z := (-1)) rfl rfl ?_
      refine jw_W_lr rfl ?_
      exact ⟨_, rfl, jx_fy_rf σ, .inl ⟨rfl, fun hh => by first | exact hip hh.1 | omega⟩⟩
    · exact absurd hc6 (show ¬ ¬ ((0 : Int) = 0) by omega)
theorem jx_mfw {x y : Int} (hx : -437400 ≤ x ∧ x ≤ 437400) (hy : 0 < y ∧ y ≤ 162) : -70858800 ≤ x * y ∧ x * y ≤ 70858800 := by
  have h1 := Int.mul_le_mul_of_nonneg_right hx.1 (show 0 ≤ y by omega)
  have h2 := Int.mul_le_mul_of_nonneg_right hx.2 (show 0 ≤ y by omega)
  omega
theorem jx_gain {n : Nat} {σ : jw_H} {o : Nat} {C : List (ge_R × Int)} (hK : jx_K n o C σ) {x y z j : Int} (r_x : jw_rg x) (r_y : jw_rg y) (r_z : jw_rg z) (r_j : jw_rg j) : jw_T (js_S n) 10 134 [.inr (.inr 13), .inl x, .inl y, .inl z, .inl j] σ (fun r σ' => ∃ v, r = some (.inr (.inl v)) ∧ jx_fy σ σ' ∧ jm_gna σ x y z j v) := by
  refine jw_T_of (D := 9) (M := mm_134) rfl (Nat.le_of_ble_eq_true rfl) (ls0 := [some (.inr (.inr 13)), some (.inl x), some (.inl y), some (.inl z), some (.inl j), none, none]) rfl ?_ (by rintro _ _ ⟨_, rfl, -⟩; rfl)
  have hI := hK.1
  obtain ⟨hto, hfo, hp, hP, e0, e1, e2, hPm, hcb, c0, p0, -⟩ := jx_I0_x hI
  have ho := hp.1
  have hq := hP.1
  have hw := hP.2.1
  have hq2 := hP.2.2.1
  have hcn := hcb.1
  refine jw_W_n 4 (i' := 4) (ls' := [some (.inr (.inr 13)), some (.inl x), some (.inl y), some (.inl z), some (.inl j), none, none]) (st' := [.inl z, .inl y, .inl x, .inr (.inr 13)]) rfl ?_
  refine jw_W_call (as := [.inr (.inr 13), .inl x, .inl y, .inl z]) (rest := []) rfl rfl rfl rfl (Nat.le_of_ble_eq_true rfl) (.inr rfl) (jx_isWholePlan hK r_x r_y r_z) (by omega) ?_ rfl
  rintro r1 σz (⟨rfl, hs, hip⟩ | ⟨rfl, hs, hip⟩)
  · rw [hs]
    show jw_W (js_S n) _ md_134 5 [some (.inr (.inr 13)), some (.inl x), some (.inl y), some (.inl z), some (.inl j), none, none] [.inl 1] σ _
    refine jw_W_if rfl (by unfold jw_rg; omega) (fun hc1 => ?_) (fun hc1 => ?_)
    · exact absurd hc1 (show ¬ ((1 : Int) = 0) by omega)
    · clear hc1
      refine jw_W_n 2 (i' := 8) (ls' := [some (.inr (.inr 13)), some (.inl x), some (.inl y), some (.inl z), some (.inl j), none, none]) (st' := [.inl j, .inr (.inr 13)]) rfl ?_
      refine jw_W_call (as := [.inr (.inr 13), .inl j]) (rest := []) rfl rfl rfl rfl (Nat.le_of_ble_eq_true rfl) (.inr rfl) (jx_isPart hK r_j) (by omega) ?_ rfl
      rintro r1 σz (⟨rfl, hs, q2⟩ | ⟨rfl, hs, q2⟩)
      · rw [hs]
        show jw_W (js_S n) _ md_134 9 [some (.inr (.inr 13)), some (.inl x), some (.inl y), some (.inl z), some (.inl j), none, none] [.inl 1] σ _
        refine jw_W_if rfl (by unfold jw_rg; omega) (fun hc2 => ?_) (fun hc2 => ?_)
        · clear hc2
          refine jw_W_n 4 (i' := 16) (ls' := [some (.inr (.inr 13)), some (.inl x), some (.inl y), some (.inl z), some (.inl j), none, none]) (st' := [.inl z, .inl y, .inl x, .inr (.inr 13)]) rfl ?_
          refine jw_W_call (as := [.inr (.inr 13), .inl x, .inl y, .inl z]) (rest := []) rfl rfl rfl rfl (Nat.le_of_ble_eq_true rfl) (.inr rfl) (jx_betterPoint hK hip) (by omega) ?_ rfl
          rintro r1 σ1 (⟨rfl, hf, hF⟩ | ⟨b, rfl, hf, hF, hb64, hbd, hbp, hG⟩)
          · show jw_W (js_S n) _ md_134 17 [some (.inr (.inr 13)), some (.inl x), some (.inl y), some (.inl z), some (.inl j), none, none] [.inl ((-1))] σ1 _
            refine jw_W_n 2 (i' := 19) (ls' := [some (.inr (.inr 13)), some (.inl x), some (.inl y), some (.inl z), some (.inl j), some (.inl ((-1))), none]) (st' := [.inl ((-1))]) rfl ?_
            refine jw_W_if rfl (by unfold jw_rg; omega) (fun hc3 => ?_) (fun hc3 => ?_)
            · exact absurd hc3 (show ¬ ((((-1 : Int))) ≥ 0) by omega)
            · clear hc3
              refine jw_W_ld2 (z := (-2)) rfl rfl ?_
              refine jw_W_lr rfl ?_
              first | omega | exact ⟨_, rfl, hf, .inr ⟨⟨hip, by omega⟩, .inl ⟨rfl, hF⟩⟩⟩
          · have hbd4 : 0 < σ1 52 b ∧ σ1 52 b ≤ 162 := hbd.2.2.2
            show jw_W (js_S n) _ md_134 17 [some (.inr (.inr 13)), some (.inl x), some (.inl y), some (.inl z), some (.inl j), none, none] [.inl b] σ1 _
            refine jw_W_n 2 (i' := 19) (ls' := [some (.inr (.inr 13)), some (.inl x), some (.inl y), some (.inl z), some (.inl j), some (.inl b), none]) (st' := [.inl b]) rfl ?_
            refine jw_W_if rfl (by unfold jw_rg; omega) (fun hc4 => ?_) (fun hc4 => ?_)
            · have hc4 : b ≥ 0 := hc4
              refine jw_W_n 1 (i' := 23) (ls' := [some (.inr (.inr 13)), some (.inl x), some (.inl y), some (.inl z), some (.inl j), some (.inl b), none]) (st' := [.inr (.inr 13)]) rfl ?_
              refine jw_W_gf rfl rfl rfl ?_
              show jw_W (js_S n) _ md_134 24 [some (.inr (.inr 13)), some (.inl x), some (.inl y), some (.inl z), some (.inl j), some (.inl b), none] [.inr (.inr 100)] σ1 _
              refine jw_W_n 1 (i' := 25) (ls' := [some (.inr (.inr 13)), some (.inl x), some (.inl y), some (.inl z), some (.inl j), some (.inl b), none]) (st' := [.inl 0, .inr (.inr 100)]) rfl ?_
              refine jw_W_ia rfl rfl (by omega) (by omega) (by omega) ?_
              show jw_W (js_S n) _ md_134 26 [some (.inr (.inr 13)), some (.inl x), some (.inl y), some (.inl z), some (.inl j), some (.inl b), none] [.inl (σ1 100 0)] σ1 _
              refine jw_W_n 3 (i' := 29) (ls' := [some (.inr (.inr 13)), some (.inl x), some (.inl y), some (.inl z), some (.inl j), some (.inl b), none]) (st' := [.inr (.inr 13), .inl ((σ1 100 0) * x)]) rfl ?_
              refine jw_W_gf rfl rfl rfl ?_
              show jw_W (js_S n) _ md_134 30 [some (.inr (.inr 13)), some (.inl x), some (.inl y), some (.inl z), some (.inl j), some (.inl b), none] [.inr (.inr 100), .inl ((σ1 100 0) * x)] σ1 _
              refine jw_W_n 1 (i' := 31) (ls' := [some (.inr (.inr 13)), some (.inl x), some (.inl y), some (.inl z), some (.inl j), some (.inl b), none]) (st' := [.inl 1, .inr (.inr 100), .inl ((σ1 100 0) * x)]) rfl ?_
              refine jw_W_ia rfl rfl (by omega) (by omega) (by omega) ?_
              show jw_W (js_S n) _ md_134 32 [some (.inr (.inr 13)), some (.inl x), some (.inl y), some (.inl z), some (.inl j), some (.inl b), none] [.inl (σ1 100 1), .inl ((σ1 100 0) * x)] σ1 _
              refine jw_W_n 4 (i' := 36) (ls' := [some (.inr (.inr 13)), some (.inl x), some (.inl y), some (.inl z), some (.inl j), some (.inl b), none]) (st' := [.inr (.inr 13), .inl (((σ1 100 0) * x) + ((σ1 100 1) * y))]) rfl ?_
              refine jw_W_gf rfl rfl rfl ?_
              show jw_W (js_S n) _ md_134 37 [some (.inr (.inr 13)), some (.inl x), some (.inl y), some (.inl z), some (.inl j), some (.inl b), none] [.inr (.inr 100), .inl (((σ1 100 0) * x) + ((σ1 100 1) * y))] σ1 _
              refine jw_W_n 1 (i' := 38) (ls' := [some (.inr (.inr 13)), some (.inl x), some (.inl y), some (.inl z), some (.inl j), some (.inl b), none]) (st' := [.inl 2, .inr (.inr 100), .inl (((σ1 100 0) * x) + ((σ1 100 1) * y))]) rfl ?_
              refine jw_W_ia rfl rfl (by omega) (by omega) (by omega) ?_
              show jw_W (js_S n) _ md_134 39 [some (.inr (.inr 13)), some (.inl x), some (.inl y), some (.inl z), some (.inl j), some (.inl b), none] [.inl (σ1 100 2), .inl (((σ1 100 0) * x) + ((σ1 100 1) * y))] σ1 _
              refine jw_W_n 3 (i' := 42) (ls' := [some (.inr (.inr 13)), some (.inl x), some (.inl y), some (.inl z), some (.inl j), some (.inl b), none]) (st' := [.inl ((((σ1 100 0) * x) + ((σ1 100 1) * y)) + ((σ1 100 2) * z))]) rfl ?_
              have hap : (((σ1 100 0) * x) + ((σ1 100 1) * y)) + ((σ1 100 2) * z) = ge_f (jm_gd3 σ 1 1 1) (x, y, z, 1) := by rw [← hG]; rfl
              have hGb := jm_gd3_Gb hPm (show jm_wok 1 1 1 by unfold jm_wok; omega)
              have hfp := jx_f_bd hGb (jm_ip_bd hip)
              rw [hap]
              have hpw := jx_mulb (x := ge_f (jm_gd3 σ 1 1 1) (x, y, z, 1)) (y := σ1 52 b) (A := 437400) (B := 162) (by omega) (by omega) (by omega)
              have hpw2 := jx_mfw (x := ge_f (jm_gd3 σ 1 1 1) (x, y, z, 1)) (y := σ1 52 b) hfp (by omega)
              refine jw_W_n 3 (i' := 45) (ls' := [some (.inr (.inr 13)), some (.inl x), some (.inl y), some (.inl z), some (.inl j), some (.inl b), some (.inl (ge_f (jm_gd3 σ 1 1 1) (x, y, z, 1)))]) (st' := [.inr (.inr 13), .inr (.inr 13)]) rfl ?_
              refine jw_W_gf rfl rfl rfl ?_
              show jw_W (js_S n) _ md_134 46 [some (.inr (.inr 13)), some (.inl x), some (.inl y), some (.inl z), some (.inl j), some (.inl b), some (.inl (ge_f (jm_gd3 σ 1 1 1) (x, y, z, 1)))] [.inr (.inr 47), .inr (.inr 13)] σ1 _
              refine jw_W_gf rfl rfl rfl ?_
              show jw_W (js_S n) _ md_134 47 [some (.inr (.inr 13)), some (.inl x), some (.inl y), some (.inl z), some (.inl j), some (.inl b), some (.inl (ge_f (jm_gd3 σ 1 1 1) (x, y, z, 1)))] [.inr (.inr 48), .inr (.inr 13)] σ1 _
              refine jw_W_n 2 (i' := 49) (ls' := [some (.inr (.inr 13)), some (.inl x), some (.inl y), some (.inl z), some (.inl j), some (.inl b), some (.inl (ge_f (jm_gd3 σ 1 1 1) (x, y, z, 1)))]) (st' := [.inr (.inr 13), .inl b, .inr (.inr 48), .inr (.inr 13)]) rfl ?_
              refine jw_W_gf rfl rfl rfl ?_
              show jw_W (js_S n) _ md_134 50 [some (.inr (.inr 13)), some (.inl x), some (.inl y), some (.inl z), some (.inl j), some (.inl b), some (.inl (ge_f (jm_gd3 σ 1 1 1) (x, y, z, 1)))] [.inr (.inr 100), .inl b, .inr (.inr 48), .inr (.inr 13)] σ1 _
              refine jw_W_n 1 (i' := 51) (ls' := [some (.inr (.inr 13)), some (.inl x), some (.inl y), some (.inl z), some (.inl j), some (.inl b), some (.inl (ge_f (jm_gd3 σ 1 1 1) (x, y, z, 1)))]) (st' := [.inl 0, .inr (.inr 100), .inl b, .inr (.inr 48), .inr (.inr 13)]) rfl ?_
              refine jw_W_call (as := [.inr (.inr 48), .inl b, .inr (.inr 100), .inl 0]) (rest := [.inr (.inr 13)]) rfl rfl rfl rfl (Nat.le_of_ble_eq_true rfl) (.inr rfl) (jx_value (a := 100) (len := 3) (f := 0) (jx_pp_48 n) rfl (by omega) (by omega) (by omega) (i := b) (by omega) (by omega)) (by omega) ?_ rfl
              rintro r1 σz ⟨rfl, hs⟩
              rw [hs, hG]
              have hfv := jx_f_bd hGb hbd
              show jw_W (js_S n) _ md_134 52 [some (.inr (.inr 13)), some (.inl x), some (.inl y), some (.inl z), some (.inl j), some (.inl b), some (.inl (ge_f (jm_gd3 σ 1 1 1) (x, y, z, 1)))] [.inl (ge_f (jm_gd3 σ 1 1 1) (jx_pt σ1 48 b)), .inr (.inr 13)] σ1 _
              refine jw_W_n 2 (i' := 54) (ls' := [some (.inr (.inr 13)), some (.inl x), some (.inl y), some (.inl z), some (.inl j), some (.inl b), some (.inl (ge_f (jm_gd3 σ 1 1 1) (x, y, z, 1)))]) (st' := [.inr (.inr 13), .inl (ge_f (jm_gd3 σ 1 1 1) (x, y, z, 1)), .inl (ge_f (jm_gd3 σ 1 1 1) (jx_pt σ1 48 b)), .inr (.inr 13)]) rfl ?_
              refine jw_W_gf rfl rfl rfl ?_
              show jw_W (js_S n) _ md_134 55 [some (.inr (.inr 13)), some (.inl x), some (.inl y), some (.inl z), some (.inl j), some (.inl b), some (.inl (ge_f (jm_gd3 σ 1 1 1) (x, y, z, 1)))] [.inr (.inr 47), .inl (ge_f (jm_gd3 σ 1 1 1) (x, y, z, 1)), .inl (ge_f (jm_gd3 σ 1 1 1) (jx_pt σ1 48 b)), .inr (.inr 13)] σ1 _
              refine jw_W_gf rfl rfl rfl ?_
              show jw_W (js_S n) _ md_134 56 [some (.inr (.inr 13)), some (.inl x), some (.inl y), some (.inl z), some (.inl j), some (.inl b), some (.inl (ge_f (jm_gd3 σ 1 1 1) (x, y, z, 1)))] [.inr (.inr 48), .inl (ge_f (jm_gd3 σ 1 1 1) (x, y, z, 1)), .inl (ge_f (jm_gd3 σ 1 1 1) (jx_pt σ1 48 b)), .inr (.inr 13)] σ1 _
              refine jw_W_gf rfl rfl rfl ?_
              show jw_W (js_S n) _ md_134 57 [some (.inr (.inr 13)), some (.inl x), some (.inl y), some (.inl z), some (.inl j), some (.inl b), some (.inl (ge_f (jm_gd3 σ 1 1 1) (x, y, z, 1)))] [.inr (.inr 52), .inl (ge_f (jm_gd3 σ 1 1 1) (x, y, z, 1)), .inl (ge_f (jm_gd3 σ 1 1 1) (jx_pt σ1 48 b)), .inr (.inr 13)] σ1 _
              refine jw_W_n 1 (i' := 58) (ls' := [some (.inr (.inr 13)), some (.inl x), some (.inl y), some (.inl z), some (.inl j), some (.inl b), some (.inl (ge_f (jm_gd3 σ 1 1 1) (x, y, z, 1)))]) (st' := [.inl b, .inr (.inr 52), .inl (ge_f (jm_gd3 σ 1 1 1) (x, y, z, 1)), .inl (ge_f (jm_gd3 σ 1 1 1) (jx_pt σ1 48 b)), .inr (.inr 13)]) rfl ?_
              refine jw_W_ia rfl rfl (by omega) (by omega) (by omega) ?_
              show jw_W (js_S n) _ md_134 59 [some (.inr (.inr 13)), some (.inl x), some (.inl y), some (.inl z), some (.inl j), some (.inl b), some (.inl (ge_f (jm_gd3 σ 1 1 1) (x, y, z, 1)))] [.inl (σ1 52 b), .inl (ge_f (jm_gd3 σ 1 1 1) (x, y, z, 1)), .inl (ge_f (jm_gd3 σ 1 1 1) (jx_pt σ1 48 b)), .inr (.inr 13)] σ1 _
              refine jw_W_n 2 (i' := 61) (ls' := [some (.inr (.inr 13)), some (.inl x), some (.inl y), some (.inl z), some (.inl j), some (.inl b), some (.inl (ge_f (jm_gd3 σ 1 1 1) (x, y, z, 1)))]) (st' := [.inl ((ge_f (jm_gd3 σ 1 1 1) (jx_pt σ1 48 b)) - ((ge_f (jm_gd3 σ 1 1 1) (x, y, z, 1)) * (σ1 52 b))), .inr (.inr 13)]) rfl ?_
              refine jw_W_i2l rfl (by unfold jw_rg; omega) ?_
              refine jw_W_n 1 (i' := 63) (ls' := [some (.inr (.inr 13)), some (.inl x), some (.inl y), some (.inl z), some (.inl j), some (.inl b), some (.inl (ge_f (jm_gd3 σ 1 1 1) (x, y, z, 1)))]) (st' := [.inr (.inr 13), .inr (.inl ((ge_f (jm_gd3 σ 1 1 1) (jx_pt σ1 48 b)) - ((ge_f (jm_gd3 σ 1 1 1) (x, y, z, 1)) * (σ1 52 b)))), .inr (.inr 13)]) rfl ?_
              refine jw_W_gf rfl rfl rfl ?_
              show jw_W (js_S n) _ md_134 64 [some (.inr (.inr 13)), some (.inl x), some (.inl y), some (.inl z), some (.inl j), some (.inl b), some (.inl (ge_f (jm_gd3 σ 1 1 1) (x, y, z, 1)))] [.inr (.inr 47), .inr (.inl ((ge_f (jm_gd3 σ 1 1 1) (jx_pt σ1 48 b)) - ((ge_f (jm_gd3 σ 1 1 1) (x, y, z, 1)) * (σ1 52 b)))), .inr (.inr 13)] σ1 _
              refine jw_W_gf rfl rfl rfl ?_
              show jw_W (js_S n) _ md_134 65 [some (.inr (.inr 13)), some (.inl x), some (.inl y), some (.inl z), some (.inl j), some (.inl b), some (.inl (ge_f (jm_gd3 σ 1 1 1) (x, y, z, 1)))] [.inr (.inr 48), .inr (.inl ((ge_f (jm_gd3 σ 1 1 1) (jx_pt σ1 48 b)) - ((ge_f (jm_gd3 σ 1 1 1) (x, y, z, 1)) * (σ1 52 b)))), .inr (.inr 13)] σ1 _
              refine jw_W_gf rfl rfl rfl ?_
              show jw_W (js_S n) _ md_134 66 [some (.inr (.inr 13)), some (.inl x), some (.inl y), some (.inl z), some (.inl j), some (.inl b), some (.inl (ge_f (jm_gd3 σ 1 1 1) (x, y, z, 1)))] [.inr (.inr 52), .inr (.inl ((ge_f (jm_gd3 σ 1 1 1) (jx_pt σ1 48 b)) - ((ge_f (jm_gd3 σ 1 1 1) (x, y, z, 1)) * (σ1 52 b)))), .inr (.inr 13)] σ1 _
              refine jw_W_n 1 (i' := 67) (ls' := [some (.inr (.inr 13)), some (.inl x), some (.inl y), some (.inl z), some (.inl j), some (.inl b), some (.inl (ge_f (jm_gd3 σ 1 1 1) (x, y, z, 1)))]) (st' := [.inl b, .inr (.inr 52), .inr (.inl ((ge_f (jm_gd3 σ 1 1 1) (jx_pt σ1 48 b)) - ((ge_f (jm_gd3 σ 1 1 1) (x, y, z, 1)) * (σ1 52 b)))), .inr (.inr 13)]) rfl ?_
              refine jw_W_ia rfl rfl (by omega) (by omega) (by omega) ?_
              show jw_W (js_S n) _ md_134 68 [some (.inr (.inr 13)), some (.inl x), some (.inl y), some (.inl z), some (.inl j), some (.inl b), some (.inl (ge_f (jm_gd3 σ 1 1 1) (x, y, z, 1)))] [.inl (σ1 52 b), .inr (.inl ((ge_f (jm_gd3 σ 1 1 1) (jx_pt σ1 48 b)) - ((ge_f (jm_gd3 σ 1 1 1) (x, y, z, 1)) * (σ1 52 b)))), .inr (.inr 13)] σ1 _
              refine jw_W_i2l rfl (by unfold jw_rg; omega) ?_
              refine jw_W_n 1 (i' := 70) (ls' := [some (.inr (.inr 13)), some (.inl x), some (.inl y), some (.inl z), some (.inl j), some (.inl b), some (.inl (ge_f (jm_gd3 σ 1 1 1) (x, y, z, 1)))]) (st' := [.inl j, .inr (.inl (σ1 52 b)), .inr (.inl ((ge_f (jm_gd3 σ 1 1 1) (jx_pt σ1 48 b)) - ((ge_f (jm_gd3 σ 1 1 1) (x, y, z, 1)) * (σ1 52 b)))), .inr (.inr 13)]) rfl ?_
              refine jw_W_call (as := [.inr (.inr 13), .inr (.inl ((ge_f (jm_gd3 σ 1 1 1) (jx_pt σ1 48 b)) - ((ge_f (jm_gd3 σ 1 1 1) (x, y, z, 1)) * (σ1 52 b)))), .inr (.inl (σ1 52 b)), .inl j]) (rest := []) rfl rfl rfl rfl (Nat.le_of_ble_eq_true rfl) (.inr rfl) (jx_partOf (by unfold jm_bg; omega) (by unfold jm_bg; omega) (by omega) (by unfold jw_rg; omega)) (by omega) ?_ rfl
              rintro r1 σ2 ⟨rfl, hs⟩
              have hf98 : jx_fy σ σ2 := by rw [hs]; exact jx_fy_fs hf (by omega)
              show jw_W (js_S n) _ md_134 71 [some (.inr (.inr 13)), some (.inl x), some (.inl y), some (.inl z), some (.inl j), some (.inl b), some (.inl (ge_f (jm_gd3 σ 1 1 1) (x, y, z, 1)))] [.inr (.inl (if j = 0 then (jx_fr ((ge_f (jm_gd3 σ 1 1 1) (jx_pt σ1 48 b)) - ((ge_f (jm_gd3 σ 1 1 1) (x, y, z, 1)) * (σ1 52 b))) (σ1 52 b)).1 else (jx_fr ((ge_f (jm_gd3 σ 1 1 1) (jx_pt σ1 48 b)) - ((ge_f (jm_gd3 σ 1 1 1) (x, y, z, 1)) * (σ1 52 b))) (σ1 52 b)).2))] σ2 _
              refine jw_W_lr rfl ?_
              refine ⟨_, rfl, hf98, .inr ⟨⟨hip, by omega, by omega⟩, .inr ⟨hF, _, hbp, ?_⟩⟩⟩
              rw [jm_Aw_gd, jm_Aw_gd]
              exact jx_fr_j hbd4.1 (by omega)
            · have hc4 : ¬ (b ≥ 0) := hc4
              refine jw_W_ld2 (z := (-2)) rfl rfl ?_
              refine jw_W_lr rfl ?_
              first | omega | exact ⟨_, rfl, hf, .inr ⟨⟨hip, by omega⟩, .inl ⟨rfl, hF⟩⟩⟩
        · exact absurd hc2 (show ¬ ¬ ((1 : Int) ≠ 0) by omega)
      · rw [hs]
        show jw_W (js_S n) _ md_134 9 [some (.inr (.inr 13)), some (.inl x), some (.inl y), some (.inl z), some (.inl j), none, none] [.inl 0] σ _
        refine jw_W_if rfl (by unfold jw_rg; omega) (fun hc5 => ?_) (fun hc5 => ?_)
        · exact absurd hc5 (show ¬ ((0 : Int) ≠ 0) by omega)
        · clear hc5
          refine jw_W_ld2 (z := (-1)) rfl rfl ?_
          refine jw_W_lr rfl ?_
          exact ⟨_, rfl, jx_fy_rf σ, .inl ⟨rfl, fun hh => by first | exact hip hh.1 | omega⟩⟩
  · rw [hs]
    show jw_W (js_S n) _ md_134 5 [some (.inr (.inr 13)), some (.inl x), some (.inl y), some (.inl z), some (.inl j), none, none] [.inl 0] σ _
    refine jw_W_if rfl (by unfold jw_rg; omega) (fun hc6 => ?_) (fun hc6 => ?_)
    · clear hc6
      refine jw_W_ld2 (z := (-1)) rfl rfl ?_
      refine jw_W_lr rfl ?_
      exact ⟨_, rfl, jx_fy_rf σ, .inl ⟨rfl, fun hh => by first | exact hip hh.1 | omega⟩⟩
    · exact absurd hc6 (show ¬ ¬ ((0 : Int) = 0) by omega)
theorem jm_bpt_uq {σ : jw_H} {p u v : ge_R} (h1 : jm_bpt σ 1 p u) (h2 : jm_bpt σ 1 p v) : u = v := by
  obtain ⟨u1, u2, u3⟩ := h1
  obtain ⟨v1, v2, v3⟩ := h2
  have a := u3 v v1 v2
  have b := v3 u u1 u2
  have wu := u1.1.1
  have wv := v1.1.1
  unfold jm_bs at a b
  have e : ge_lt v u = false ∧ ge_lt u v = false := by
    rcases a with a | a <;> rcases b with b | b
    · omega
    · omega
    · omega
    · exact ⟨a.2, b.2⟩
  rcases ge_lt_tot u v with h | h | h
  · rw [e.2] at h
    cases h
  · rw [e.1] at h
    cases h
  · exact (ge_pp_eq u2 wu wv h).trans (ge_pp_eq v2 wv wv ⟨rfl, rfl, rfl⟩).symm
theorem jm_bta_uq {σ : jw_H} {x y z j u v : Int} (h1 : jm_bta σ x y z j u) (h2 : jm_bta σ x y z j v) : u = v := by
  rcases h1 with ⟨e1, a1⟩ | ⟨a1, ⟨e1, b1⟩ | ⟨b1, p, c1, e1⟩⟩ <;> rcases h2 with ⟨e2, a2⟩ | ⟨a2, ⟨e2, b2⟩ | ⟨b2, q, c2, e2⟩⟩ <;> first | exact e1.trans e2.symm | exact absurd a1 a2 | exact absurd a2 a1 | exact absurd b1 b2 | exact absurd b2 b1 | (have := jm_bpt_uq c1 c2; rw [e1, e2, this])
theorem jm_gna_uq {σ : jw_H} {x y z j u v : Int} (h1 : jm_gna σ x y z j u) (h2 : jm_gna σ x y z j v) : u = v := by
  rcases h1 with ⟨e1, a1⟩ | ⟨a1, ⟨e1, b1⟩ | ⟨b1, p, c1, e1⟩⟩ <;> rcases h2 with ⟨e2, a2⟩ | ⟨a2, ⟨e2, b2⟩ | ⟨b2, q, c2, e2⟩⟩ <;> first | exact e1.trans e2.symm | exact absurd a1 a2 | exact absurd a2 a1 | exact absurd b1 b2 | exact absurd b2 b1 | (have := jm_bpt_uq c1 c2; rw [e1, e2, this])
theorem jm_bpt_me {σ0 σ : jw_H} (h : jx_me σ0 σ) (hP : jm_Pb σ0) (p u : ge_R) : jm_bpt σ 1 p u ↔ jm_bpt σ0 1 p u := by
  have hq := hP.1
  have hk := hP.2.2.1
  unfold jm_bpt jm_bs
  simp only [jm_Aw_gd, jm_gd3_me h]
  rw [jx_pq_bA (jx_me_pq h) (by omega) (by omega), jx_pq_F (jx_me_pq h), h 103 (by omega)]
theorem jm_bta_me {σ0 σ : jw_H} (h : jx_me σ0 σ) (hP : jm_Pb σ0) (x y z j v : Int) : jm_bta σ x y z j v ↔ jm_bta σ0 x y z j v := by
  have hq := hP.1
  have hk := hP.2.2.1
  unfold jm_bta jm_ip
  simp only [jm_bpt_me h hP]
  rw [jx_pq_bA (jx_me_pq h) (by omega) (by omega), h 103 (by omega)]
theorem jm_gna_me {σ0 σ : jw_H} (h : jx_me σ0 σ) (hP : jm_Pb σ0) (x y z j v : Int) : jm_gna σ x y z j v ↔ jm_gna σ0 x y z j v := by
  have hq := hP.1
  have hk := hP.2.2.1
  unfold jm_gna jm_ip
  simp only [jm_bpt_me h hP, jm_Aw_gd, jm_gd3_me h]
  rw [jx_pq_bA (jx_me_pq h) (by omega) (by omega), h 103 (by omega)]

/-! ===== plan of the class ===== -/
theorem jx_F_rows {μ : jw_H} (hP : jm_Pb μ) {p : ge_R} (hw : 0 < p.2.2.2) (h2 : μ 103 3 ≤ 2 → p.2.2.1 = 0) (h1 : μ 103 3 ≤ 1 → p.2.1 = 0) : (∀ k, 0 ≤ k → k < μ 103 5 + 2 * μ 103 3 → ge_s (jx_row μ k) p ≤ 0) ↔ ge_F (jm_R μ) p := by
  constructor
  · intro h
    refine ⟨hw, fun r hr => ?_⟩
    rcases List.mem_append.mp hr with hr | hr
    · obtain ⟨⟨b, r'⟩, hz, rfl⟩ := List.mem_map.mp hr
      obtain ⟨g1, g2⟩ := (jx_bA_row hP).mp hz
      show ge_s r' p ≤ 0
      rw [g2]
      exact h (b : Int) (by omega) g1
    · unfold jm_vr at hr
      rcases List.mem_append.mp hr with hr | hr
      · split at hr
        · rename_i hq
          have := h2 hq
          rcases List.mem_cons.mp hr with rfl | hr
          · simp only [ge_s]
            omega
          · rcases List.mem_cons.mp hr with rfl | hr
            · simp only [ge_s]
              omega
            · cases hr
        · cases hr
      · split at hr
        · rename_i hq
          have := h1 hq
          rcases List.mem_cons.mp hr with rfl | hr
          · simp only [ge_s]
            omega
          · rcases List.mem_cons.mp hr with rfl | hr
            · simp only [ge_s]
              omega
            · cases hr
        · cases hr
  · intro h k k0 k1
    have := h.2 (jx_row μ k) (List.mem_append_left _ (List.mem_map.mpr ⟨(k.toNat, jx_row μ k), (jx_bA_row hP).mpr ⟨by omega, by rw [Int.toNat_of_nonneg k0]⟩, rfl⟩))
    exact this
theorem jm_ip_bd {σ : jw_H} {x y z : Int} (h : jm_ip σ x y z) : jx_bd (x, y, z, 1) := by
  unfold jm_ip at h
  unfold jx_bd
  dsimp only
  omega
/-- the plan is allowed, as the class asks it -/
theorem jx_ip_F {n : Nat} {σ : jw_H} {o : Nat} {C : List (ge_R × Int)} (hI : jx_I0 n σ o C) {x y z : Int} (h : jm_ip σ x y z) : (∀ k, 0 ≤ k → k < σ o 2 + 2 * σ o 0 → ge_s (jx_row (jx_M σ o) k) (x, y, z, 1) ≤ 0) ↔ ge_F (jm_RR (σ 103 3) (jm_bA σ)) (x, y, z, 1) := by
  obtain ⟨hto, hfo, hp, hP, e0, e1, e2, hPm, hcb, c0, p0, -⟩ := jx_I0_x hI
  have hq := hPm.1
  have hk := hPm.2.2.1
  unfold jm_ip at h
  have e3 : (jx_M σ o) 103 3 = σ 103 3 := hI.1.2.2.2.1.1
  have h1 := jx_F_rows (jx_Pb_M hP) (p := (x, y, z, 1)) (show (0 : Int) < 1 by decide) (by rw [e3]; intro hh; exact h.2.2.2 hh) (by rw [e3]; intro hh; exact h.2.1.2 hh)
  rw [jx_pq_R hI.1.2.2.2 (by omega) (by omega)] at h1
  exact h1
theorem jx_isWholeOf {n : Nat} {σ : jw_H} {o : Nat} {C : List (ge_R × Int)} (hK : jx_K n o C σ) {q v : Int} (hq1 : jw_rg q) (hv1 : jw_rg v) : jw_T (js_S n) 1 170 [.inr (.inr 13), .inl q, .inl v] σ (fun r σ' => (r = some (.inl 1) ∧ σ' = σ ∧ (0 ≤ v ∧ (q < σ 103 3 ∧ v ≤ 9 ∨ ¬ q < σ 103 3 ∧ v ≤ 0))) ∨ (r = some (.inl 0) ∧ σ' = σ ∧ ¬ (0 ≤ v ∧ (q < σ 103 3 ∧ v ≤ 9 ∨ ¬ q < σ 103 3 ∧ v ≤ 0)))) := by
  refine jw_T_of (D := 0) (M := mm_170) rfl (Nat.le_of_ble_eq_true rfl) (ls0 := [some (.inr (.inr 13)), some (.inl q), some (.inl v)]) rfl ?_ (by rintro _ _ (⟨rfl, -⟩ | ⟨rfl, -⟩) <;> rfl)
  have hI := hK.1
  obtain ⟨hto, hfo, hp, hP, e0, e1, e2, hPm, hcb, c0, p0, -⟩ := jx_I0_x hI
  have ho := hp.1
  have hq := hP.1
  have hw := hP.2.1
  have hq2 := hP.2.2.1
  have hcn := hcb.1
  have rhq1 := hq1
  unfold jw_rg at rhq1
  have rhv1 := hv1
  unfold jw_rg at rhv1
  refine jw_W_n 1 (i' := 1) (ls' := [some (.inr (.inr 13)), some (.inl q), some (.inl v)]) (st' := [.inl v]) rfl ?_
  refine jw_W_if rfl (by unfold jw_rg; omega) (fun hc1 => ?_) (fun hc1 => ?_)
  · have hc1 : v < 0 := hc1
    refine jw_W_n 1 (i' := 15) (ls' := [some (.inr (.inr 13)), some (.inl q), some (.inl v)]) (st' := [.inl 0]) rfl ?_
    refine jw_W_ir rfl ?_
    exact .inr ⟨rfl, rfl, by omega⟩
  · have hc1 : ¬ (v < 0) := hc1
    refine jw_W_n 3 (i' := 5) (ls' := [some (.inr (.inr 13)), some (.inl q), some (.inl v)]) (st' := [.inr (.inr 13), .inl q, .inl v]) rfl ?_
    refine jw_W_gf rfl rfl rfl ?_
    show jw_W (js_S n) _ md_170 6 [some (.inr (.inr 13)), some (.inl q), some (.inl v)] [.inr (.inr ((σ 13 2).toNat)), .inl q, .inl v] σ _
    rw [hto]
    refine jw_W_gf rfl hp.2.1 rfl ?_
    show jw_W (js_S n) _ md_170 7 [some (.inr (.inr 13)), some (.inl q), some (.inl v)] [.inl (σ o 0), .inl q, .inl v] σ _
    refine jw_W_ic rfl (by unfold jw_rg; omega) (by unfold jw_rg; omega) (fun hc2 => ?_) (fun hc2 => ?_)
    · have hc2 : q ≥ (σ o 0) := hc2
      refine jw_W_n 1 (i' := 11) (ls' := [some (.inr (.inr 13)), some (.inl q), some (.inl v)]) (st' := [.inl 0, .inl v]) rfl ?_
      refine jw_W_ic rfl (by unfold jw_rg; omega) (by unfold jw_rg; omega) (fun hc3 => ?_) (fun hc3 => ?_)
      · have hc3 : v > 0 := hc3
        refine jw_W_n 1 (i' := 15) (ls' := [some (.inr (.inr 13)), some (.inl q), some (.inl v)]) (st' := [.inl 0]) rfl ?_
        refine jw_W_ir rfl ?_
        exact .inr ⟨rfl, rfl, by omega⟩
      · have hc3 : ¬ (v > 0) := hc3
        refine jw_W_n 2 (i' := 15) (ls' := [some (.inr (.inr 13)), some (.inl q), some (.inl v)]) (st' := [.inl 1]) rfl ?_
        refine jw_W_ir rfl ?_
        exact .inl ⟨rfl, rfl, by omega⟩
    · have hc2 : ¬ (q ≥ (σ o 0)) := hc2
      refine jw_W_n 2 (i' := 11) (ls' := [some (.inr (.inr 13)), some (.inl q), some (.inl v)]) (st' := [.inl 9, .inl v]) rfl ?_
      refine jw_W_ic rfl (by unfold jw_rg; omega) (by unfold jw_rg; omega) (fun hc4 => ?_) (fun hc4 => ?_)
      · have hc4 : v > 9 := hc4
        refine jw_W_n 1 (i' := 15) (ls' := [some (.inr (.inr 13)), some (.inl q), some (.inl v)]) (st' := [.inl 0]) rfl ?_
        refine jw_W_ir rfl ?_
        exact .inr ⟨rfl, rfl, by omega⟩
      · have hc4 : ¬ (v > 9) := hc4
        refine jw_W_n 2 (i' := 15) (ls' := [some (.inr (.inr 13)), some (.inl q), some (.inl v)]) (st' := [.inl 1]) rfl ?_
        refine jw_W_ir rfl ?_
        exact .inl ⟨rfl, rfl, by omega⟩
theorem jx_isWholePlan {n : Nat} {σ : jw_H} {o : Nat} {C : List (ge_R × Int)} (hK : jx_K n o C σ) {x y z : Int} (r_x : jw_rg x) (r_y : jw_rg y) (r_z : jw_rg z) : jw_T (js_S n) 2 169 [.inr (.inr 13), .inl x, .inl y, .inl z] σ (fun r σ' => (r = some (.inl 1) ∧ σ' = σ ∧ (jm_ip σ x y z)) ∨ (r = some (.inl 0) ∧ σ' = σ ∧ ¬ (jm_ip σ x y z))) := by
  refine jw_T_of (D := 1) (M := mm_169) rfl (Nat.le_of_ble_eq_true rfl) (ls0 := [some (.inr (.inr 13)), some (.inl x), some (.inl y), some (.inl z)]) rfl ?_ (by rintro _ _ (⟨rfl, -⟩ | ⟨rfl, -⟩) <;> rfl)
  have hI := hK.1
  obtain ⟨hto, hfo, hp, hP, e0, e1, e2, hPm, hcb, c0, p0, -⟩ := jx_I0_x hI
  have ho := hp.1
  have hq := hP.1
  have hw := hP.2.1
  have hq2 := hP.2.2.1
  have hcn := hcb.1
  refine jw_W_n 3 (i' := 3) (ls' := [some (.inr (.inr 13)), some (.inl x), some (.inl y), some (.inl z)]) (st' := [.inl x, .inl 0, .inr (.inr 13)]) rfl ?_
  refine jw_W_call (as := [.inr (.inr 13), .inl 0, .inl x]) (rest := []) rfl rfl rfl rfl (Nat.le_of_ble_eq_true rfl) (.inr rfl) (jx_isWholeOf hK (by unfold jw_rg; omega) r_x) (by omega) ?_ rfl
  rintro r1 σz (⟨rfl, hs, q1⟩ | ⟨rfl, hs, q1⟩)
  · rw [hs]
    show jw_W (js_S n) _ md_169 4 [some (.inr (.inr 13)), some (.inl x), some (.inl y), some (.inl z)] [.inl 1] σ _
    refine jw_W_if rfl (by unfold jw_rg; omega) (fun hc1 => ?_) (fun hc1 => ?_)
    · exact absurd hc1 (show ¬ ((1 : Int) = 0) by omega)
    · clear hc1
      refine jw_W_n 3 (i' := 8) (ls' := [some (.inr (.inr 13)), some (.inl x), some (.inl y), some (.inl z)]) (st' := [.inl y, .inl 1, .inr (.inr 13)]) rfl ?_
      refine jw_W_call (as := [.inr (.inr 13), .inl 1, .inl y]) (rest := []) rfl rfl rfl rfl (Nat.le_of_ble_eq_true rfl) (.inr rfl) (jx_isWholeOf hK (by unfold jw_rg; omega) r_y) (by omega) ?_ rfl
      rintro r1 σz (⟨rfl, hs, q2⟩ | ⟨rfl, hs, q2⟩)
      · rw [hs]
        show jw_W (js_S n) _ md_169 9 [some (.inr (.inr 13)), some (.inl x), some (.inl y), some (.inl z)] [.inl 1] σ _
        refine jw_W_if rfl (by unfold jw_rg; omega) (fun hc2 => ?_) (fun hc2 => ?_)
        · exact absurd hc2 (show ¬ ((1 : Int) = 0) by omega)
        · clear hc2
          refine jw_W_n 3 (i' := 13) (ls' := [some (.inr (.inr 13)), some (.inl x), some (.inl y), some (.inl z)]) (st' := [.inl z, .inl 2, .inr (.inr 13)]) rfl ?_
          refine jw_W_call (as := [.inr (.inr 13), .inl 2, .inl z]) (rest := []) rfl rfl rfl rfl (Nat.le_of_ble_eq_true rfl) (.inr rfl) (jx_isWholeOf hK (by unfold jw_rg; omega) r_z) (by omega) ?_ rfl
          rintro r1 σz (⟨rfl, hs, q3⟩ | ⟨rfl, hs, q3⟩)
          · rw [hs]
            show jw_W (js_S n) _ md_169 14 [some (.inr (.inr 13)), some (.inl x), some (.inl y), some (.inl z)] [.inl 1] σ _
            refine jw_W_if rfl (by unfold jw_rg; omega) (fun hc3 => ?_) (fun hc3 => ?_)
            · exact absurd hc3 (show ¬ ((1 : Int) = 0) by omega)
            · clear hc3
              refine jw_W_n 2 (i' := 18) (ls' := [some (.inr (.inr 13)), some (.inl x), some (.inl y), some (.inl z)]) (st' := [.inl 1]) rfl ?_
              refine jw_W_ir rfl ?_
              exact .inl ⟨rfl, rfl, by unfold jm_ip; omega⟩
          · rw [hs]
            show jw_W (js_S n) _ md_169 14 [some (.inr (.inr 13)), some (.inl x), some (.inl y), some (.inl z)] [.inl 0] σ _
            refine jw_W_if rfl (by unfold jw_rg; omega) (fun hc4 => ?_) (fun hc4 => ?_)
            · clear hc4
              refine jw_W_n 1 (i' := 18) (ls' := [some (.inr (.inr 13)), some (.inl x), some (.inl y), some (.inl z)]) (st' := [.inl 0]) rfl ?_
              refine jw_W_ir rfl ?_
              exact .inr ⟨rfl, rfl, by unfold jm_ip; omega⟩
            · exact absurd hc4 (show ¬ ¬ ((0 : Int) = 0) by omega)
      · rw [hs]
        show jw_W (js_S n) _ md_169 9 [some (.inr (.inr 13)), some (.inl x), some (.inl y), some (.inl z)] [.inl 0] σ _
        refine jw_W_if rfl (by unfold jw_rg; omega) (fun hc5 => ?_) (fun hc5 => ?_)
        · clear hc5
          refine jw_W_n 1 (i' := 18) (ls' := [some (.inr (.inr 13)), some (.inl x), some (.inl y), some (.inl z)]) (st' := [.inl 0]) rfl ?_
          refine jw_W_ir rfl ?_
          exact .inr ⟨rfl, rfl, by unfold jm_ip; omega⟩
        · exact absurd hc5 (show ¬ ¬ ((0 : Int) = 0) by omega)
  · rw [hs]
    show jw_W (js_S n) _ md_169 4 [some (.inr (.inr 13)), some (.inl x), some (.inl y), some (.inl z)] [.inl 0] σ _
    refine jw_W_if rfl (by unfold jw_rg; omega) (fun hc6 => ?_) (fun hc6 => ?_)
    · clear hc6
      refine jw_W_n 1 (i' := 18) (ls' := [some (.inr (.inr 13)), some (.inl x), some (.inl y), some (.inl z)]) (st' := [.inl 0]) rfl ?_
      refine jw_W_ir rfl ?_
      exact .inr ⟨rfl, rfl, by unfold jm_ip; omega⟩
    · exact absurd hc6 (show ¬ ¬ ((0 : Int) = 0) by omega)
theorem jx_plan {n : Nat} {σ : jw_H} {o : Nat} {C : List (ge_R × Int)} (hK : jx_K n o C σ) {x y z : Int} (r_x : jw_rg x) (r_y : jw_rg y) (r_z : jw_rg z) : jw_T (js_S n) 8 133 [.inr (.inr 13), .inl x, .inl y, .inl z] σ (fun r σ' => ∃ v, r = some (.inl v) ∧ jx_fy σ σ' ∧ jm_pa σ x y z v) := by
  refine jw_T_of (D := 7) (M := mm_133) rfl (Nat.le_of_ble_eq_true rfl) (ls0 := [some (.inr (.inr 13)), some (.inl x), some (.inl y), some (.inl z)]) rfl ?_ (by rintro _ _ ⟨_, rfl, -⟩; rfl)
  have hI := hK.1
  obtain ⟨hto, hfo, hp, hP, e0, e1, e2, hPm, hcb, c0, p0, -⟩ := jx_I0_x hI
  have ho := hp.1
  have hq := hP.1
  have hw := hP.2.1
  have hq2 := hP.2.2.1
  have hcn := hcb.1
  refine jw_W_n 4 (i' := 4) (ls' := [some (.inr (.inr 13)), some (.inl x), some (.inl y), some (.inl z)]) (st' := [.inl z, .inl y, .inl x, .inr (.inr 13)]) rfl ?_
  refine jw_W_call (as := [.inr (.inr 13), .inl x, .inl y, .inl z]) (rest := []) rfl rfl rfl rfl (Nat.le_of_ble_eq_true rfl) (.inr rfl) (jx_isWholePlan hK r_x r_y r_z) (by omega) ?_ rfl
  rintro r1 σz (⟨rfl, hs, hip⟩ | ⟨rfl, hs, hip⟩)
  · rw [hs]
    show jw_W (js_S n) _ md_133 5 [some (.inr (.inr 13)), some (.inl x), some (.inl y), some (.inl z)] [.inl 1] σ _
    refine jw_W_if rfl (by unfold jw_rg; omega) (fun hc1 => ?_) (fun hc1 => ?_)
    · clear hc1
      refine jw_W_n 1 (i' := 9) (ls' := [some (.inr (.inr 13)), some (.inl x), some (.inl y), some (.inl z)]) (st' := [.inr (.inr 13)]) rfl ?_
      refine jw_W_gf rfl rfl rfl ?_
      show jw_W (js_S n) _ md_133 10 [some (.inr (.inr 13)), some (.inl x), some (.inl y), some (.inl z)] [.inr (.inr ((σ 13 2).toNat))] σ _
      rw [hto]
      refine jw_W_n 4 (i' := 14) (ls' := [some (.inr (.inr 13)), some (.inl x), some (.inl y), some (.inl z)]) (st' := [.inl 1, .inl z, .inl y, .inl x, .inr (.inr o)]) rfl ?_
      refine jw_W_call (as := [.inr (.inr o), .inl x, .inl y, .inl z, .inl 1]) (rest := []) rfl rfl rfl rfl (Nat.le_of_ble_eq_true rfl) (.inr (jx_rc hp.2.1)) (jx_allows hp hP (fun k k0 k1 => jx_pr_bd (jx_Pb_M hP) k0 k1 (jm_ip_bd hip))) (by omega) ?_ rfl
      rintro r1 σz (⟨rfl, hs, hal⟩ | ⟨rfl, hs, hal⟩)
      · rw [hs]
        have hF := (jx_ip_F hI hip).mp hal
        show jw_W (js_S n) _ md_133 15 [some (.inr (.inr 13)), some (.inl x), some (.inl y), some (.inl z)] [.inl 1] σ _
        refine jw_W_if rfl (by unfold jw_rg; omega) (fun hc2 => ?_) (fun hc2 => ?_)
        · clear hc2
          refine jw_W_n 1 (i' := 19) (ls' := [some (.inr (.inr 13)), some (.inl x), some (.inl y), some (.inl z)]) (st' := [.inr (.inr 13)]) rfl ?_
          refine jw_W_gf rfl rfl rfl ?_
          show jw_W (js_S n) _ md_133 20 [some (.inr (.inr 13)), some (.inl x), some (.inl y), some (.inl z)] [.inr (.inr 57)] σ _
          refine jw_W_n 1 (i' := 21) (ls' := [some (.inr (.inr 13)), some (.inl x), some (.inl y), some (.inl z)]) (st' := [.inr (.inr 13), .inr (.inr 57)]) rfl ?_
          refine jw_W_gf rfl rfl rfl ?_
          show jw_W (js_S n) _ md_133 22 [some (.inr (.inr 13)), some (.inl x), some (.inl y), some (.inl z)] [.inr (.inr ((σ 13 2).toNat)), .inr (.inr 57)] σ _
          rw [hto]
          refine jw_W_n 4 (i' := 26) (ls' := [some (.inr (.inr 13)), some (.inl x), some (.inl y), some (.inl z)]) (st' := [.inl 1, .inl z, .inl y, .inl x, .inr (.inr o), .inr (.inr 57)]) rfl ?_
          refine jw_W_call (as := [.inr (.inr o), .inl x, .inl y, .inl z, .inl 1]) (rest := [.inr (.inr 57)]) rfl rfl rfl rfl (Nat.le_of_ble_eq_true rfl) (.inr (jx_rc hp.2.1)) (jx_tightAt hp hP (fun k k0 k1 => jx_pr_bd (jx_Pb_M hP) k0 k1 (jm_ip_bd hip))) (by omega) ?_ rfl
          rintro r1 σz ⟨t, rfl, hs, htt⟩
          rw [hs]
          show jw_W (js_S n) _ md_133 27 [some (.inr (.inr 13)), some (.inl x), some (.inl y), some (.inl z)] [.inl t, .inr (.inr 57)] σ _
          refine jw_W_call (as := [.inr (.inr 57), .inl t]) (rest := []) rfl rfl rfl rfl (Nat.le_of_ble_eq_true rfl) (.inr rfl) (jx_isEfficientAt hfo hp hP htt.1) (by omega) ?_ rfl
          rintro r1 σ1 ⟨m, v, rfl, hf, hra, hv⟩
          have hv01 : v = 0 ∨ v = 1 := by rcases hv with ⟨e, -⟩ | ⟨e, -⟩ <;> omega
          have hta := (jx_tt_tau (jx_Pb_M hP)).mp htt
          have hrs : jx_rs σ (x, y, z, 1) m := jx_rs_pq hI.1.2.2.2 hPm (jx_ra_rs (jx_Pb_M hP) (by rw [jx_pq_R hI.1.2.2.2 (by omega) (by omega)]; exact hF) hta.1 hra)
          have hz := jx_rs_0 hrs
          show jw_W (js_S n) _ md_133 28 [some (.inr (.inr 13)), some (.inl x), some (.inl y), some (.inl z)] [.inl v] σ1 _
          refine jw_W_if rfl (by unfold jw_rg; omega) (fun hc3 => ?_) (fun hc3 => ?_)
          · have hc3 : v = 0 := hc3
            refine jw_W_n 1 (i' := 32) (ls' := [some (.inr (.inr 13)), some (.inl x), some (.inl y), some (.inl z)]) (st' := [.inl 1]) rfl ?_
            refine jw_W_ir rfl ?_
            exact ⟨_, rfl, jx_fy_q hf, .inr ⟨hip, .inr ⟨hF, .inr ⟨rfl, Classical.not_not.mp (fun hh => (hv.resolve_left (fun hh => by omega)).2 (hz.mpr hh))⟩⟩⟩⟩
          · have hc3 : ¬ (v = 0) := hc3
            refine jw_W_n 2 (i' := 32) (ls' := [some (.inr (.inr 13)), some (.inl x), some (.inl y), some (.inl z)]) (st' := [.inl 2]) rfl ?_
            refine jw_W_ir rfl ?_
            exact ⟨_, rfl, jx_fy_q hf, .inr ⟨hip, .inr ⟨hF, .inl ⟨rfl, hz.mp (hv.resolve_right (fun hh => by omega)).2⟩⟩⟩⟩
        · exact absurd hc2 (show ¬ ¬ ((1 : Int) ≠ 0) by omega)
      · rw [hs]
        show jw_W (js_S n) _ md_133 15 [some (.inr (.inr 13)), some (.inl x), some (.inl y), some (.inl z)] [.inl 0] σ _
        refine jw_W_if rfl (by unfold jw_rg; omega) (fun hc4 => ?_) (fun hc4 => ?_)
        · exact absurd hc4 (show ¬ ((0 : Int) ≠ 0) by omega)
        · clear hc4
          refine jw_W_n 1 (i' := 17) (ls' := [some (.inr (.inr 13)), some (.inl x), some (.inl y), some (.inl z)]) (st' := [.inl 0]) rfl ?_
          refine jw_W_ir rfl ?_
          exact ⟨_, rfl, jx_fy_rf σ, .inr ⟨hip, .inl ⟨rfl, fun hh => hal ((jx_ip_F hI hip).mpr hh)⟩⟩⟩
    · exact absurd hc1 (show ¬ ¬ ((1 : Int) ≠ 0) by omega)
  · rw [hs]
    show jw_W (js_S n) _ md_133 5 [some (.inr (.inr 13)), some (.inl x), some (.inl y), some (.inl z)] [.inl 0] σ _
    refine jw_W_if rfl (by unfold jw_rg; omega) (fun hc5 => ?_) (fun hc5 => ?_)
    · exact absurd hc5 (show ¬ ((0 : Int) ≠ 0) by omega)
    · clear hc5
      refine jw_W_n 1 (i' := 7) (ls' := [some (.inr (.inr 13)), some (.inl x), some (.inl y), some (.inl z)]) (st' := [.inl ((-1))]) rfl ?_
      refine jw_W_ir rfl ?_
      exact ⟨_, rfl, jx_fy_rf σ, .inl ⟨rfl, hip⟩⟩
theorem jm_pa_uq {σ : jw_H} {x y z u v : Int} (h1 : jm_pa σ x y z u) (h2 : jm_pa σ x y z v) : u = v := by
  rcases h1 with ⟨e1, a1⟩ | ⟨a1, ⟨e1, b1⟩ | ⟨b1, ⟨e1, c1⟩ | ⟨e1, c1⟩⟩⟩ <;> rcases h2 with ⟨e2, a2⟩ | ⟨a2, ⟨e2, b2⟩ | ⟨b2, ⟨e2, c2⟩ | ⟨e2, c2⟩⟩⟩ <;> first | exact e1.trans e2.symm | exact absurd a1 a2 | exact absurd a2 a1 | exact absurd b1 b2 | exact absurd b2 b1 | exact absurd c1 c2 | exact absurd c2 c1
theorem jm_pa_me {σ0 σ : jw_H} (h : jx_me σ0 σ) (hP : jm_Pb σ0) (x y z v : Int) : jm_pa σ x y z v ↔ jm_pa σ0 x y z v := by
  have hq := hP.1
  have hk := hP.2.2.1
  unfold jm_pa jm_ip
  rw [jx_pq_Ef (jx_me_pq h) hP, jx_pq_bA (jx_me_pq h) (by omega) (by omega), h 103 (by omega)]

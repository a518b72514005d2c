/-! ===== the law's loop: calls that change what is held ===== -/
theorem jv_po (n : Nat) {p : Nat} (h : p = 15 ∨ p = 21 ∨ p = 27) : jx_po n p := by
  rcases h with rfl | rfl | rfl
  · exact ⟨by omega, rfl, rfl, rfl, rfl, rfl, rfl⟩
  · exact ⟨by omega, rfl, rfl, rfl, rfl, rfl, rfl⟩
  · exact ⟨by omega, rfl, rfl, rfl, rfl, rfl, rfl⟩
theorem jv_Ns_fr {σ σ' : jw_H} (h : σ' 131 = σ 131) (k : jm_Ns σ) : jm_Ns σ' := by
  unfold jm_Ns at k ⊢
  rw [h]
  exact k
/-- the problem told stays: tape, law, drafts may change -/
def jv_tp (o : Nat) (σ σ' : jw_H) : Prop := (∀ c, c ≠ 13 → c ≠ 14 → c ≠ 33 → c ≠ 34 → (c < 42 ∨ 46 < c) → c ≠ 98 → c ≠ 103 → (c < 107 ∨ 124 < c) → (c < 15 ∨ 26 < c ∨ (o ≤ c ∧ c ≤ o + 5)) → σ' c = σ c) ∧ (∀ j, (j = 2 ∨ j = 3 ∨ j = 5) → σ' 13 j = σ 13 j) ∧ ∀ j, (j = 3 ∨ j = 4 ∨ j = 5 ∨ (56 ≤ j ∧ j ≤ 59) ∨ j = 75) → σ' 103 j = σ 103 j
theorem jv_J_t {n : Nat} {s : Int → Int} {o : Nat} {C : List (ge_R × Int)} {σ : jw_H} (hJ : jv_J n s o C σ) {σ' : jw_H} (h : jv_tp o σ σ') (ht : ∃ b t, jv_t σ' b t) (hl : ∃ b, jv_l σ' b) : jv_J n s o C σ' := by
  obtain ⟨a1, a2, -, -, a5, a6, a7⟩ := hJ
  obtain ⟨f1, f2, f3⟩ := h
  have ho := a2
  have hN := a1.2.1.1.2.2.2.2.1
  refine ⟨jv_K_kc ⟨f2 2 (by omega), fun c hc => f1 c (by omega) (by omega) (by omega) (by omega) (by omega) (by omega) (by omega) (by omega) (by omega)⟩ ⟨fun c hc => f1 c (by omega) (by omega) (by omega) (by omega) (by omega) (by omega) (by omega) (by omega) (by omega), fun j hj => f3 j (by omega), jv_Ns_fr (f1 131 (by omega) (by omega) (by omega) (by omega) (by omega) (by omega) (by omega) (by omega) (by omega)) hN⟩ a1, by rw [f2 3 (by omega)]; exact a2, ht, hl, jv_st_fr (fun c hc => f1 c (by omega) (by omega) (by omega) (by omega) (by omega) (by omega) (by omega) (by omega) (by omega)) a5, jv_k_fr a6 ⟨fun c hc => f1 c (by omega) (by omega) (by omega) (by omega) (by omega) (by omega) (by omega) (by omega) (by omega), f2 5 (by omega), f3 75 (by omega)⟩, by rw [f1 0 (by omega) (by omega) (by omega) (by omega) (by omega) (by omega) (by omega) (by omega) (by omega)]; exact a7⟩
/-- an empty tape -/
theorem jv_t0 {σ : jw_H} (h1 : σ 13 1 = 0) (h2 : σ 103 7 = 0) : ∃ b t, jv_t σ b t := ⟨fun _ => 0, 0, ⟨h1, fun j j0 j1 => by omega⟩, ⟨h2, fun j j0 j1 => by omega⟩, by omega, fun j j0 j1 => by omega⟩
theorem jv_tm_and {σ : jw_H} {b : Int → Int} {t : Int} (h : jn_tm σ b t) (hb : ∀ j, 0 ≤ j → j < t → 0 ≤ b j ∧ b j ≤ 255) : ∀ j, 0 ≤ j → j < σ 103 7 → jw_and (σ 107 j) 255 = b j ∧ (-128 ≤ σ 107 j ∧ σ 107 j ≤ 127) ∧ 0 ≤ b j ∧ b j ≤ 255 := by
  intro j j0 j1
  rw [h.1] at j1
  have k := h.2 j j0 j1
  exact ⟨(jk_and255 k.2).trans k.1, k.2, hb j j0 j1⟩
theorem jv_feed {n : Nat} {s : Int → Int} {o : Nat} {C : List (ge_R × Int)} {σ : jw_H} (hJ : jv_J n s o C σ) {a0 a1 a2 a3 a4 : Int} (r0 : jw_rg a0) (r1 : jw_rg a1) (r2 : jw_rg a2) (r3 : jw_rg a3) (r4 : jw_rg a4) : jv_op n s 31 114 184 [.inl a0, .inl a1, .inl a2, .inl a3, .inl a4] jv_i σ := by
  have hJ0 := hJ
  obtain ⟨k1, k2, ⟨b, t, tc, tm, t01, hbb⟩, ⟨bl, hl⟩, a5, a6, a7⟩ := hJ
  refine jw_T_mono (jx_feed tc t01.1 t01.2 r0 r1 r2 r3 r4) (Nat.le_of_ble_eq_true rfl) ?_
  rintro r σ1 (⟨rfl, hs, h240⟩ | ⟨rfl, hf, htc, h240⟩)
  · rw [hs]
    refine ⟨_, rfl, a7, jw_T_mono (jm_feed tm t01.1 t01.2 r0 r1 r2 r3 r4) (Nat.le_of_ble_eq_true rfl) ?_⟩
    rintro r2 σ2 (⟨rfl, hs2, -⟩ | ⟨-, -, -, h2⟩)
    · rw [hs2]
      exact ⟨rfl, jv_J_I hJ0⟩
    · omega
  · have tm1 : jn_tm σ1 b t := by
      unfold jn_tm
      rw [hf.1 103 (by omega) (by omega), hf.1 107 (by omega) (by omega)]
      exact tm
    refine ⟨_, rfl, by rw [hf.1 0 (by omega) (by omega)]; exact a7, jw_T_mono (jm_feed tm1 t01.1 t01.2 r0 r1 r2 r3 r4) (Nat.le_of_ble_eq_true rfl) ?_⟩
    rintro r2 σ2 (⟨-, -, h2⟩ | ⟨rfl, hf2, htm, -⟩)
    · omega
    · have f : ∀ c, c ≠ 13 → c ≠ 14 → c ≠ 103 → c ≠ 107 → σ2 c = σ c := fun c d1 d2 d3 d4 => (hf2.1 c d3 d4).trans (hf.1 c d1 d2)
      have f13 : ∀ j, j ≠ 1 → σ2 13 j = σ 13 j := fun j d => by rw [hf2.1 13 (by omega) (by omega)]; exact hf.2 j d
      have f103 : ∀ j, j ≠ 7 → σ2 103 j = σ 103 j := fun j d => (hf2.2 j d).trans (by rw [hf.1 103 (by omega) (by omega)])
      have htc2 : jn_tc σ2 (jn_b20 b t a0 a1 a2 a3 a4) (t + 20) := by
        unfold jn_tc at htc ⊢
        rw [hf2.1 13 (by omega) (by omega), hf2.1 14 (by omega) (by omega)]
        exact htc
      exact ⟨rfl, jv_J_I (jv_J_t hJ0 ⟨fun c d1 d2 d3 d4 d5 d6 d7 d8 d9 => f c d1 d2 d7 (by omega), fun j hj => f13 j (by omega), fun j hj => f103 j (by omega)⟩ ⟨_, _, htc2, htm, by omega, jn_b20_rg hbb⟩ ⟨bl, jv_l_fr hl ⟨fun c hc => f c (by omega) (by omega) (by omega) (by omega), f103 16 (by omega)⟩⟩)⟩
theorem jv_law {n : Nat} {s : Int → Int} {o : Nat} {C : List (ge_R × Int)} {σ : jw_H} (hJ : jv_J n s o C σ) {a0 : Int} (r0 : jw_rg a0) : jv_op n s 31 116 207 [.inl a0] jv_i σ := by
  have hJ0 := hJ
  obtain ⟨k1, k2, ⟨b, t, tc, tm, t01, hbb⟩, ⟨bl, ⟨hcv, h5, hb45, hok⟩, hmc, hcnt⟩, k5, k6, k7⟩ := hJ
  have hbc : ∀ j, 0 ≤ j → j < σ 13 1 → σ 14 j = b j ∧ 0 ≤ b j ∧ b j ≤ 255 := fun j j0 j1 => by
    rw [tc.1] at j1
    exact ⟨tc.2 j j0 j1, hbb j j0 j1⟩
  refine jw_T_mono (jl_lawc r0 (by rw [tc.1]; exact t01) hcv hbc) (Nat.le_of_ble_eq_true rfl) ?_
  rintro r σ1 (⟨hn, rfl, hs⟩ | ⟨hy, rfl, hf⟩)
  · rw [hs]
    refine ⟨_, rfl, k7, jw_T_mono (jo_lawR r0 (by rw [tm.1]; exact t01) (jv_tm_and tm hbb)) (Nat.le_of_ble_eq_true rfl) ?_⟩
    rintro r2 σ2 (⟨-, rfl, hs2⟩ | ⟨h2, -⟩)
    · rw [hs2]
      exact ⟨rfl, jv_J_I hJ0⟩
    · rw [tm.1] at h2
      rw [tc.1] at hn
      exact absurd h2 hn
  · obtain ⟨c1, c2, c3, c4, c5, c6⟩ := hf
    have c1' : ∀ c, c ≠ 13 → c ≠ 42 → c ≠ 43 → c ≠ 45 → σ1 c = σ c := fun c d0 d1 d2 d3 => (c1 c d1 d2 d3).trans (jw_up_out _ _ _ d0)
    have c13 : ∀ j, j ≠ 1 → σ1 13 j = σ 13 j := fun j d => by rw [c1 13 (by omega) (by omega) (by omega), jw_up_ne _ (by omega)]
    have c131 : σ1 13 1 = 0 := by rw [c1 13 (by omega) (by omega) (by omega), jw_up_eq]
    have tm1 : jn_tm σ1 b t := by
      unfold jn_tm
      rw [c1' 103 (by omega) (by omega) (by omega) (by omega), c1' 107 (by omega) (by omega) (by omega) (by omega)]
      exact tm
    refine ⟨_, rfl, by rw [c1' 0 (by omega) (by omega) (by omega) (by omega)]; exact k7, jw_T_mono (jo_lawR r0 (by rw [tm1.1]; exact t01) (jv_tm_and tm1 hbb)) (Nat.le_of_ble_eq_true rfl) ?_⟩
    rintro r2 σ2 (⟨h2, -⟩ | ⟨-, rfl, m1, m2, m3, m4, m5⟩)
    · rw [tm1.1] at h2
      rw [tc.1] at hy
      exact absurd hy h2
    · have f : ∀ c, c ≠ 13 → c ≠ 42 → c ≠ 43 → c ≠ 45 → c ≠ 103 → (c < 108 ∨ 118 < c) → σ2 c = σ c := fun c d0 d1 d2 d3 d4 d5 => (m1 c d4 d5).trans (c1' c d0 d1 d2 d3)
      have f13 : σ2 13 = σ1 13 := m1 13 (by omega) (by omega)
      have f42 : σ2 42 = σ1 42 := m1 42 (by omega) (by omega)
      have f45 : σ2 45 = σ1 45 := m1 45 (by omega) (by omega)
      have f46 : σ2 46 = σ 46 := f 46 (by omega) (by omega) (by omega) (by omega) (by omega) (by omega)
      have hst2 : jl_st σ2 := jq_st_fr (f 1 (by omega) (by omega) (by omega) (by omega) (by omega) (by omega)) (f 2 (by omega) (by omega) (by omega) (by omega) (by omega) (by omega)) hcv.2.2.1
      have hcv2 : jl_cv σ2 := ⟨by rw [f42]; exact c5, by rw [f42]; exact c6, hst2, by rw [f46]; exact hcv.2.2.2⟩
      have e103 : ∀ j, (j < 7 ∨ 16 < j) → σ2 103 j = σ 103 j := fun j hj => (m2 j hj).trans (by rw [c1' 103 (by omega) (by omega) (by omega) (by omega)])
      refine ⟨rfl, jv_J_I (jv_J_t hJ0 ⟨fun c d1 d2 d3 d4 d5 d6 d7 d8 d9 => f c d1 (by omega) (by omega) (by omega) d7 (by omega), fun j hj => by rw [f13]; exact c13 j (by omega), fun j hj => e103 j (by omega)⟩ (jv_t0 (by rw [f13]; exact c131) m3) ?_)⟩
      have e42 : ∀ j, jw_up σ 13 1 0 42 j = σ 42 j := fun j => by rw [jw_up_out _ _ _ (by omega)]
      by_cases hz : (jl_law b a0).1 = 0
      · obtain ⟨d1, d2, d3, d4⟩ := c4 hz
        have hmc2 := m5 hz
        have e5 : σ2 42 5 = a0 := by rw [f42]; exact d2
        have hL : jq_L b (σ2 42 5) = (jl_law b a0).2.2 := by
          unfold jq_L
          rw [e5, if_pos (by omega)]
        refine ⟨b, ⟨hcv2, by rw [e5]; omega, ?_, fun _ => by rw [e5]; exact hz⟩, by rw [hL]; exact hmc2, ?_⟩
        · rw [e5]
          intro j j0 j1
          rw [f45]
          exact ⟨d3 j j0 j1, hbb j j0 (by have := tc.1; omega)⟩
        · rw [f42, d1]
          exact hmc2.1.symm
      · obtain ⟨d1, d2, d3⟩ := c3 hz
        obtain ⟨n1, n2⟩ := m4 hz
        rw [e42] at d1 d2
        have e5 : σ2 42 5 = σ 42 5 := by rw [f42]; exact d2
        have e45 : σ2 45 = σ 45 := by rw [f45, d3, jw_up_out _ _ _ (by omega)]
        have em : ∀ c, 114 ≤ c → c ≤ 118 → σ2 c = σ c := fun c x1 x2 => (n2 c x1 x2).trans (c1' c (by omega) (by omega) (by omega) (by omega))
        have e16 : σ2 103 16 = σ 103 16 := n1.trans (by rw [c1' 103 (by omega) (by omega) (by omega) (by omega)])
        refine ⟨bl, ⟨hcv2, by rw [e5]; exact h5, by rw [e5, e45]; exact hb45, by rw [e5]; exact hok⟩, ?_, by rw [f42, d1, e16]; exact hcnt⟩
        rw [e5]
        unfold jl_mc at hmc ⊢
        rw [e16, em 115 (by omega) (by omega), em 116 (by omega) (by omega), em 117 (by omega) (by omega), em 118 (by omega) (by omega)]
        refine ⟨hmc.1, hmc.2.1, fun t q hq => ?_⟩
        obtain ⟨x1, x2, x3, x4, x5, x6, x7, x8, x9⟩ := hmc.2.2 t q hq
        exact ⟨x1, x2, x3, x4, x5, x6, jl_cs_fr x7 (em 114 (by omega) (by omega)), jl_cs_fr x8 (em 114 (by omega) (by omega)), x9⟩
/-- the reference's knowledge, behind a class's check -/
abbrev jv_K_c1 (n o : Nat) (C : List (ge_R × Int)) (σ σ1 : jw_H) : Prop := jm_KN σ1 C
theorem jv_K_c1_of {n o : Nat} {C : List (ge_R × Int)} {σ σ1 : jw_H} (h : jx_K n o C σ) (hf : jn_cf σ σ1) : jv_K_c1 n o C σ σ1 := jm_KN_me (fun c hc => hf.1 c (by omega) (by omega)) h.2.1
theorem jv_cka_fr {σ σ' : jw_H} {b : Int → Int} {t m v : Int} (h103 : σ' 103 = σ 103) (h : ∀ c, (132 ≤ c ∧ c ≤ 135) → σ' c = σ c) (k : jn_cka σ' b t m v) : jn_cka σ b t m v := by
  have e : ∀ i, jn_due σ' i = jn_due σ i := fun i => by
    unfold jn_due
    rw [h103, h 132 (by omega), h 135 (by omega)]
  unfold jn_cka at k ⊢
  simp only [e] at k
  exact k
theorem jv_count {n : Nat} {s : Int → Int} {o : Nat} {C : List (ge_R × Int)} {σ : jw_H} (hJ : jv_J n s o C σ) {a0 : Int} (r0 : jw_rg a0) : jv_op n s 31 163 334 [.inl a0] jv_i σ := by
  have hJ0 := hJ
  obtain ⟨k1, k2, ⟨b, t, tc, tm, t01, hbb⟩, ⟨bl, hlw, hmc, hcnt⟩, k5, k6, k7⟩ := hJ
  refine jw_T_mono (jx_count r0) (Nat.le_of_ble_eq_true rfl) ?_
  rintro r σ1 ⟨rfl, hs⟩
  rw [hs]
  refine ⟨_, rfl, k7, jw_T_mono (jm_count r0) (Nat.le_of_ble_eq_true rfl) ?_⟩
  rintro r2 σ2 ⟨rfl, hs2⟩
  rw [hs2]
  refine ⟨?_, jv_J_I hJ0⟩
  rw [hcnt, tc.1, tm.1]
theorem jv_check {n : Nat} {s : Int → Int} {o : Nat} {C : List (ge_R × Int)} {σ : jw_H} (hJ : jv_J n s o C σ) {a0 : Int} (r0 : jw_rg a0) : jv_op n s 31 162 333 [.inl a0] jv_i σ := by
  have hJ0 := hJ
  obtain ⟨k1, k2, ⟨b, t, tc, tm, t01, hbb⟩, ⟨bl, hl⟩, k5, k6, k7⟩ := hJ
  refine jw_T_mono (jx_check k1.1 tc hbb t01 r0) (Nat.le_of_ble_eq_true rfl) ?_
  rintro r σ1 (⟨rfl, hs, hn⟩ | ⟨v, rfl, hf, hv, hy⟩)
  · rw [hs]
    refine ⟨_, rfl, k7, jw_T_mono (jm_check k1.2.1 tm hbb t01 r0) (Nat.le_of_ble_eq_true rfl) ?_⟩
    rintro r2 σ2 (⟨rfl, hs2, -⟩ | ⟨v, -, -, -, h2⟩)
    · rw [hs2]
      exact ⟨rfl, jv_J_I hJ0⟩
    · exact absurd h2 hn
  · have tm1 : jn_tm σ1 b t := by
      unfold jn_tm
      rw [hf.1 103 (by omega) (by omega), hf.1 107 (by omega) (by omega)]
      exact tm
    have hJ1 : jv_K_c1 n o C σ σ1 := jv_K_c1_of k1 hf
    refine ⟨_, rfl, by rw [hf.1 0 (by omega) (by omega)]; exact k7, jw_T_mono (jm_check hJ1 tm1 hbb t01 r0) (Nat.le_of_ble_eq_true rfl) ?_⟩
    rintro r2 σ2 (⟨-, -, h2⟩ | ⟨v2, rfl, hs2, hv2, -⟩)
    · exact absurd hy h2
    · have hvv : v2 = v := jn_cka_uq (jv_cka_fr (by rw [hf.1 103 (by omega) (by omega)]) (fun c hc => hf.1 c (by omega) (by omega)) hv2) hv
      rw [hvv]
      have f : ∀ c, c ≠ 13 → c ≠ 98 → c ≠ 103 → σ2 c = σ c := fun c d1 d2 d3 => by rw [hs2, jw_up_out _ _ _ d3]; exact hf.1 c d1 d2
      have f13 : σ2 13 = σ1 13 := by rw [hs2, jw_up_out _ _ _ (by omega)]
      have f103 : ∀ j, j ≠ 7 → σ2 103 j = σ 103 j := fun j d => by rw [hs2, jw_up_ne _ (by omega), hf.1 103 (by omega) (by omega)]
      exact ⟨rfl, jv_J_I (jv_J_t hJ0 ⟨fun c d1 d2 d3 d4 d5 d6 d7 d8 d9 => f c d1 d6 d7, fun j hj => by rw [f13]; exact hf.2.1 j (by omega), fun j hj => f103 j (by omega)⟩ (jv_t0 (by rw [f13]; exact hf.2.2) (by rw [hs2, jw_up_eq])) ⟨bl, jv_l_fr hl ⟨fun c hc => f c (by omega) (by omega) (by omega), f103 16 (by omega)⟩⟩)⟩
theorem jv_chosen {n : Nat} {s : Int → Int} {o : Nat} {C : List (ge_R × Int)} {σ : jw_H} (hJ : jv_J n s o C σ) {a0 : Int} (r0 : jw_rg a0) : jv_op n s 31 155 326 [.inl a0] jv_i σ := by
  have hJ0 := hJ
  obtain ⟨k1, k2, ⟨b, t, ht⟩, ⟨bl, hlw, hmc, hcnt⟩, k5, k6, k7⟩ := hJ
  refine jw_T_mono (jq_chosen k1 hlw (jq_mc_gL hmc) r0) (Nat.le_of_ble_eq_true rfl) ?_
  rintro r σ1 ⟨rfl, ⟨f1, f2, f3⟩, hlw1, hK1⟩
  have e5 : σ1 42 5 = σ 42 5 := f3 5 (by omega) (by omega) (by omega) (by omega) (by omega)
  have e103 := f1 103 (by omega)
  have hmc1 : jl_mc σ1 (jq_L bl (σ1 42 5)) := by
    rw [e5]
    unfold jl_mc at hmc ⊢
    rw [e103, f1 115 (by omega), f1 116 (by omega), f1 117 (by omega), f1 118 (by omega)]
    refine ⟨hmc.1, hmc.2.1, fun t q hq => ?_⟩
    obtain ⟨x1, x2, x3, x4, x5, x6, x7, x8, x9⟩ := hmc.2.2 t q hq
    exact ⟨x1, x2, x3, x4, x5, x6, jl_cs_fr x7 (f1 114 (by omega)), jl_cs_fr x8 (f1 114 (by omega)), x9⟩
  have hJ1 : jv_J n s o C σ1 := ⟨hK1, by rw [f2 3 (by omega)]; exact k2, ⟨b, t, jv_t_fr ht ⟨f1 14 (by omega), f1 107 (by omega), f2 1 (by omega), by rw [e103]⟩⟩, ⟨bl, hlw1, hmc1, by rw [f3 0 (by omega) (by omega) (by omega) (by omega) (by omega), e103]; exact hcnt⟩, jv_st_fr (fun c hc => f1 c (by omega)) k5, jv_k_fr k6 ⟨fun c hc => f1 c (by omega), f2 5 (by omega), by rw [e103]⟩, by rw [f1 0 (by omega)]; exact k7⟩
  have hme : jx_me σ σ1 := fun c hc => f1 c (by omega)
  refine ⟨_, rfl, hJ1.2.2.2.2.2.2, jw_T_mono (jq_chosenR hK1.2.1 hmc1 r0) (Nat.le_of_ble_eq_true rfl) ?_⟩
  rintro r2 σ2 ⟨rfl, hz⟩
  refine ⟨?_, jv_J_I (jv_J_z hJ1 hz)⟩
  rw [e5]
  unfold jq_cha
  rw [jq_ch_x hme, e103]

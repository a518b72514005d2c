/-! ===== the law's loop: problem, keep, undo ===== -/
/-- one problem is as good as the other -/
theorem jv_Pb_pq {μ ν : jw_H} (h : jx_pq μ ν) (hP : jm_Pb ν) : jm_Pb μ := by
  obtain ⟨⟨e3, e4, e5⟩, h4, h5, h6⟩ := h
  obtain ⟨p1, p2, p3, p4, p5, p6⟩ := hP
  unfold jm_Pb
  rw [e3, e4, e5]
  refine ⟨p1, p2, p3, fun k k0 k1 => ⟨fun j j0 j1 => ?_, ?_, ?_⟩, fun j j0 j1 => ?_, fun w w0 w1 j j0 j1 => ?_⟩
  · rw [h5 _ (by omega) (by omega)]
    exact (p4 k k0 k1).1 j j0 j1
  · rw [h5 _ (by omega) (by omega)]
    exact (p4 k k0 k1).2.1
  · rw [h5 _ (by omega) (by omega)]
    exact (p4 k k0 k1).2.2
  · rw [h6 j j0 j1]
    exact p5 j j0 j1
  · rw [h4 _ (by omega) (by omega)]
    exact p6 w w0 w1 j j0 j1
theorem jv_keep {n : Nat} {s : Int → Int} {o : Nat} {C : List (ge_R × Int)} {σ : jw_H} (hJ : jv_J n s o C σ) : jv_op n s 31 160 331 [] jv_i σ := by
  have hJ0 := hJ
  obtain ⟨k1, k2, ⟨b, t, ht⟩, ⟨bl, hl⟩, k5, k6, k7⟩ := hJ
  have ho2 : o = 15 ∨ o = 21 := by omega
  have hPo := (jx_I0_x k1.1).2.2.2.1
  have hPm := k1.2.1.1.1
  have hpq := k1.1.1.2.2.2
  refine jw_T_mono (jx_keep k1.1 ho2) (Nat.le_of_ble_eq_true rfl) ?_
  rintro r σ1 ⟨rfl, f1, f2, f3, σc, hpc, f4⟩
  have e103 : σ1 103 = σ 103 := f1 103 (by omega) (by omega)
  have hpcP := jn_pc_Pb hpc hPo
  have hpcq := jn_pc_pq hpc hPo
  refine ⟨_, rfl, by rw [f1 0 (by omega) (by omega)]; exact k7, jw_T_mono (jm_keep (σ := σ1)) (Nat.le_of_ble_eq_true rfl) ?_⟩
  rintro r2 σ2 ⟨rfl, ⟨⟨g1, g2, g3⟩, ⟨g4, g5, g6⟩, g7, g8, g9⟩⟩
  have f : ∀ c, (c < 27 ∨ 32 < c) → c ≠ 13 → c ≠ 103 → c ≠ 144 → σ2 c = σ c := fun c d1 d2 d3 d4 => (g1 c d4 d3).trans (f1 c d1 d2)
  have f13 : σ2 13 = σ1 13 := g1 13 (by omega) (by omega)
  have f103 : ∀ j, j ≠ 75 → σ2 103 j = σ 103 j := fun j d => (g2 j d).trans (by rw [e103])
  have fk : ∀ c, 27 ≤ c → c ≤ 32 → σ2 c = σc c := fun c d1 d2 => (g1 c (by omega) (by omega)).trans (f4 c d1 d2)
  have hqM : jx_pq (jn_kM σ2) σ := by
    refine ⟨⟨?_, ?_, ?_⟩, fun j j0 j1 => ?_, fun j j0 j1 => ?_, fun j j0 j1 => ?_⟩
    · show σ2 144 0 = _
      rw [g4, e103]
    · show σ2 144 1 = _
      rw [g5, e103]
    · show σ2 144 2 = _
      rw [g6, e103]
    · show σ2 144 (3 + j) = _
      have := hPm.2.1
      rw [g7 j j0 (by omega), f1 104 (by omega) (by omega)]
    · show σ2 144 (12 + j) = _
      have := hPm.2.2.1
      rw [g8 j j0 (by omega), f1 105 (by omega) (by omega)]
    · show σ2 144 (32 + j) = _
      rw [g9 j j0 (by omega), f1 106 (by omega) (by omega)]
  have hN := k1.2.1.1.2.2.2.2.1
  have hK2 : jx_K n o C σ2 := jv_K_kc ⟨by rw [f13]; exact f2 2 (by omega), fun c hc => f c (by omega) (by omega) (by omega) (by omega)⟩ ⟨fun c hc => f c (by omega) (by omega) (by omega) (by omega), fun j hj => f103 j (by omega), jv_Ns_fr (f 131 (by omega) (by omega) (by omega) (by omega)) hN⟩ k1
  refine ⟨by rw [e103], ⟨o, C, hK2, by rw [f13, f2 3 (by omega)]; exact k2, ⟨b, t, jv_t_fr ht ⟨f 14 (by omega) (by omega) (by omega) (by omega), f 107 (by omega) (by omega) (by omega) (by omega), by rw [f13]; exact f2 1 (by omega), f103 7 (by omega)⟩⟩, ⟨bl, jv_l_fr hl ⟨fun c hc => f c (by omega) (by omega) (by omega) (by omega), f103 16 (by omega)⟩⟩, jv_st_fr (fun c hc => f c (by omega) (by omega) (by omega) (by omega)) k5, ?_, by rw [f 0 (by omega) (by omega) (by omega) (by omega)]; exact k7⟩⟩
  refine ⟨by rw [f13, f3, g3], .inr ⟨by rw [f13]; exact f3, jx_Pb_fr (fun c c1 c2 => fk c c1 (by omega)) hpcP, jv_Pb_pq hqM hPm, ?_⟩⟩
  exact jx_pq_tr (jx_M_fr (fun c c1 c2 => fk c c1 (by omega))) (jx_pq_tr hpcq (jx_pq_tr hpq (jx_pq_sy hqM)))
theorem jv_undo {n : Nat} {s : Int → Int} {o : Nat} {C : List (ge_R × Int)} {σ : jw_H} (hJ : jv_J n s o C σ) : jv_op n s 31 161 332 [] jv_i σ := by
  have hJ0 := hJ
  obtain ⟨k1, k2, ⟨b, t, ht⟩, ⟨bl, hl⟩, k5, k6, k7⟩ := hJ
  have ho2 : o = 15 ∨ o = 21 := by omega
  have hN := k1.2.1.1.2.2.2.2.1
  refine jw_T_mono (jx_undo k1.1 ho2 (k6.2.imp id (fun w => ⟨w.1, w.2.1⟩))) (Nat.le_of_ble_eq_true rfl) ?_
  rintro r σ1 (⟨rfl, hs, h0⟩ | ⟨rfl, ⟨σc, hpc, hbd⟩, h1⟩)
  · rw [hs]
    refine ⟨_, rfl, k7, jw_T_mono (jm_undo hN (.inl (by rw [← k6.1]; exact h0))) (Nat.le_of_ble_eq_true rfl) ?_⟩
    rintro r2 σ2 (⟨rfl, hs2, -⟩ | ⟨-, h2, -⟩)
    · rw [hs2]
      exact ⟨rfl, jv_J_I hJ0⟩
    · have := k6.1
      omega
  · obtain ⟨q1, q2, q3, q4⟩ := k6.2.resolve_left (by omega)
    have hbd0 := hbd
    obtain ⟨Pl, -, -, -, b1, -⟩ := hbd
    have f1 : ∀ c, (c < o ∨ o + 5 < c) → (c < 47 ∨ 63 < c) → σ1 c = σ c := fun c d1 d2 => (b1 c d2).trans (hpc.1 c d1)
    have e144 : σ1 144 = σ 144 := f1 144 (by omega) (by omega)
    have e103 : σ1 103 = σ 103 := f1 103 (by omega) (by omega)
    have q3' : jm_Pb (jn_kM σ1) := by
      rw [jv_kM_P, e144]
      exact (jv_kM_P σ).mp q3
    refine ⟨_, rfl, by rw [f1 0 (by omega) (by omega)]; exact k7, jw_T_mono (jm_undo (jv_Ns_fr (f1 131 (by omega) (by omega)) hN) (.inr ⟨by rw [e103, ← k6.1]; exact h1, q3'⟩)) (Nat.le_of_ble_eq_true rfl) ?_⟩
    rintro r2 σ2 (⟨-, -, h2⟩ | ⟨rfl, -, σm, hur, hkf, C', hKN⟩)
    · rw [e103] at h2
      have := k6.1
      omega
    · have hmq := jn_ur_pq hur q3'
      have f2 : ∀ c, (c < 103 ∨ 106 < c) → (c < 125 ∨ 139 < c) → σ2 c = σ1 c := fun c d1 d2 => (hkf.1 c d2 (by omega)).trans (hur.1.1 c d1)
      have f103 : ∀ j, j ≠ 46 → (j < 3 ∨ (5 < j ∧ j < 56) ∨ 59 < j) → σ2 103 j = σ 103 j := fun j d1 d2 => (hkf.2 j d1 (by omega)).trans ((hur.1.2 j (by omega)).trans (by rw [e103]))
      have hpcP := jn_pc_Pb hpc q2
      have hpcq := jn_pc_pq hpc q2
      have hm2 : jx_pq σm σ2 := by
        refine ⟨⟨(hkf.2 3 (by omega) (by omega)).symm, (hkf.2 4 (by omega) (by omega)).symm, (hkf.2 5 (by omega) (by omega)).symm⟩, fun j _ _ => ?_, fun j _ _ => ?_, fun j _ _ => ?_⟩
        · rw [hkf.1 104 (by omega) (by omega)]
        · rw [hkf.1 105 (by omega) (by omega)]
        · rw [hkf.1 106 (by omega) (by omega)]
      have hk12 : jx_pq (jn_kM σ) (jn_kM σ1) := by
        rw [jv_kM_q, e144, ← jv_kM_q]
        exact jx_pq_rf _
      have hpq : jx_pq (jx_M σc o) σ2 := jx_pq_tr hpcq (jx_pq_tr q4 (jx_pq_tr hk12 (jx_pq_tr hmq hm2)))
      have h13 : σ1 13 2 = (o : Int) := by
        rw [f1 13 (by omega) (by omega)]
        exact k1.1.1.1
      obtain ⟨hK2, -⟩ := jn_join (jv_po n (by omega)) hpcP hbd0 (fun c hc => f2 c (by omega) (by omega)) h13 hpq hKN
      have fa : ∀ c, (c < o ∨ o + 5 < c) → (c < 47 ∨ 63 < c) → (c < 103 ∨ 106 < c) → (c < 125 ∨ 139 < c) → σ2 c = σ c := fun c d1 d2 d3 d4 => (f2 c d3 d4).trans (f1 c d1 d2)
      exact ⟨rfl, ⟨o, C', hK2, by rw [fa 13 (by omega) (by omega) (by omega) (by omega)]; exact k2, ⟨b, t, jv_t_fr ht ⟨fa 14 (by omega) (by omega) (by omega) (by omega), fa 107 (by omega) (by omega) (by omega) (by omega), by rw [fa 13 (by omega) (by omega) (by omega) (by omega)], f103 7 (by omega) (by omega)⟩⟩, ⟨bl, jv_l_fr hl ⟨fun c hc => fa c (by omega) (by omega) (by omega) (by omega), f103 16 (by omega) (by omega)⟩⟩, jv_st_fr (fun c hc => fa c (by omega) (by omega) (by omega) (by omega)) k5, jv_k_fr k6 ⟨fun c hc => fa c (by omega) (by omega) (by omega) (by omega), by rw [fa 13 (by omega) (by omega) (by omega) (by omega)], f103 75 (by omega) (by omega)⟩, by rw [fa 0 (by omega) (by omega) (by omega) (by omega)]; exact k7⟩⟩
theorem jv_problem {n : Nat} {s : Int → Int} {o : Nat} {C : List (ge_R × Int)} {σ : jw_H} (hJ : jv_J n s o C σ) {a0 : Int} (r0 : jw_rg a0) : jv_op n s 31 117 224 [.inl a0] jv_i σ := by
  have hJ0 := hJ
  obtain ⟨k1, k2, ⟨b, t, tc, tm, t01, hbb⟩, ⟨bl, hl⟩, k5, k6, k7⟩ := hJ
  have hN := k1.2.1.1.2.2.2.2.1
  obtain ⟨p, hp⟩ : ∃ p : Nat, (o = 15 ∧ p = 21 ∧ σ 13 3 = (p : Int)) ∨ (o = 21 ∧ p = 15 ∧ σ 13 3 = (p : Int)) := by
    rcases k2 with ⟨x, y⟩ | ⟨x, y⟩
    · exact ⟨21, .inl ⟨x, rfl, y⟩⟩
    · exact ⟨15, .inr ⟨x, rfl, y⟩⟩
  have hbc : ∀ j, 0 ≤ j → j < σ 13 1 → σ 14 j = b j ∧ 0 ≤ b j ∧ b j ≤ 255 := fun j j0 j1 => by
    rw [tc.1] at j1
    exact ⟨tc.2 j j0 j1, hbb j j0 j1⟩
  have hto := (jx_I0_x k1.1).1
  refine jw_T_mono (jk_problem (o := o) (p := p) (jv_po n (by omega)) (jv_po n (by omega)) hto (by omega) r0 (by rw [tc.1]; exact t01) k5 hbc) (Nat.le_of_ble_eq_true rfl) ?_
  rintro r σ1 (⟨hn, rfl, hs⟩ | ⟨hy, hz, rfl, f1, f2, f3⟩ | ⟨hy, hz, rfl, σ3, hcw, hbd⟩)
  · rw [hs]
    refine ⟨_, rfl, k7, jw_T_mono (jk_problemR r0 (by rw [tm.1]; exact t01) (jv_tm_and tm hbb) hN) (Nat.le_of_ble_eq_true rfl) ?_⟩
    rw [tc.1] at hn
    rintro r2 σ2 (⟨-, rfl, hs2⟩ | ⟨h2, -⟩ | ⟨h2, -⟩)
    · rw [hs2]
      exact ⟨rfl, jv_J_I hJ0⟩
    · rw [tm.1] at h2
      exact absurd h2 hn
    · rw [tm.1] at h2
      exact absurd h2 hn
  · have e103 : σ1 103 = σ 103 := f1 103 (by omega) (by omega) (by omega) (by omega)
    have tm1 : jn_tm σ1 b t := by
      unfold jn_tm
      rw [e103, f1 107 (by omega) (by omega) (by omega) (by omega)]
      exact tm
    refine ⟨_, rfl, by rw [f1 0 (by omega) (by omega) (by omega) (by omega)]; exact k7, jw_T_mono (jk_problemR r0 (by rw [tm1.1]; exact t01) (jv_tm_and tm1 hbb) (jv_Ns_fr (f1 131 (by omega) (by omega) (by omega) (by omega)) hN)) (Nat.le_of_ble_eq_true rfl) ?_⟩
    rw [tc.1] at hy
    rintro r2 σ2 (⟨h2, -⟩ | ⟨-, -, rfl, m1, m2, m3⟩ | ⟨-, h2, -⟩)
    · rw [tm1.1] at h2
      exact absurd hy h2
    · have f : ∀ c, c ≠ 13 → c ≠ 33 → c ≠ 34 → (c < p ∨ p + 5 < c) → c ≠ 103 → (c < 121 ∨ 124 < c) → σ2 c = σ c := fun c d1 d2 d3 d4 d5 d6 => (m1 c d5 (by omega) (by omega) (by omega) (by omega)).trans (f1 c d1 d2 d3 d4)
      have f13 : σ2 13 = σ1 13 := m1 13 (by omega) (by omega) (by omega) (by omega) (by omega)
      have f103 : ∀ j, (j < 7 ∨ 39 < j ∨ (15 < j ∧ j < 34)) → σ2 103 j = σ 103 j := fun j hj => (m2 j (by omega)).trans (by rw [e103])
      exact ⟨rfl, jv_J_I (jv_J_t hJ0 ⟨fun c d1 d2 d3 d4 d5 d6 d7 d8 d9 => f c d1 d3 d4 (by omega) d7 (by omega), fun j hj => by rw [f13]; exact f2 j (by omega), fun j hj => f103 j (by omega)⟩ (jv_t0 (by rw [f13]; exact f3) m3) ⟨bl, jv_l_fr hl ⟨fun c hc => f c (by omega) (by omega) (by omega) (by omega) (by omega) (by omega), f103 16 (by omega)⟩⟩)⟩
    · exact absurd h2 hz
  · obtain ⟨w1, w2, w3, w4, w5, hrl⟩ := hcw
    have hbd0 := hbd
    obtain ⟨Pl, -, -, -, b1, -⟩ := hbd
    have f1 : ∀ c, c ≠ 13 → c ≠ 33 → c ≠ 34 → (c < p ∨ p + 5 < c) → (c < 47 ∨ 63 < c) → σ1 c = σ c := fun c d1 d2 d3 d4 d5 => (b1 c d5).trans (w1 c d1 d2 d3 d4)
    have e103 : σ1 103 = σ 103 := f1 103 (by omega) (by omega) (by omega) (by omega) (by omega)
    have e13 : σ1 13 = σ3 13 := b1 13 (by omega)
    have tm1 : jn_tm σ1 b t := by
      unfold jn_tm
      rw [e103, f1 107 (by omega) (by omega) (by omega) (by omega) (by omega)]
      exact tm
    refine ⟨_, rfl, by rw [f1 0 (by omega) (by omega) (by omega) (by omega) (by omega)]; exact k7, jw_T_mono (jk_problemR r0 (by rw [tm1.1]; exact t01) (jv_tm_and tm1 hbb) (jv_Ns_fr (f1 131 (by omega) (by omega) (by omega) (by omega) (by omega)) hN)) (Nat.le_of_ble_eq_true rfl) ?_⟩
    rw [tc.1] at hy
    rintro r2 σ2 (⟨h2, -⟩ | ⟨-, h2, -⟩ | ⟨-, -, rfl, σm, hnw, hkf, C', hKN⟩)
    · rw [tm1.1] at h2
      exact absurd hy h2
    · exact absurd hz h2
    · have hwf := jk_wf_ptx (b := b) (m := a0) (by omega) hz
      have hP3 := jk_Pb_of hrl hwf
      have hq0 := jk_pq_of hrl hnw hwf
      have hm2 : jx_pq σm σ2 := by
        refine ⟨⟨(hkf.2 3 (by omega) (by omega)).symm, (hkf.2 4 (by omega) (by omega)).symm, (hkf.2 5 (by omega) (by omega)).symm⟩, fun j _ _ => ?_, fun j _ _ => ?_, fun j _ _ => ?_⟩
        · rw [hkf.1 104 (by omega) (by omega)]
        · rw [hkf.1 105 (by omega) (by omega)]
        · rw [hkf.1 106 (by omega) (by omega)]
      have f2 : ∀ c, c ≠ 103 → (c < 104 ∨ 106 < c) → (c < 121 ∨ 139 < c) → σ2 c = σ1 c := fun c d0 d1 d2 => (hkf.1 c (by omega) d0).trans (hnw.1 c d0 d1 (by omega) (by omega) (by omega) (by omega))
      have f103 : ∀ j, (j < 3 ∨ j = 6 ∨ (15 < j ∧ j < 34) ∨ 59 < j) → σ2 103 j = σ 103 j := fun j hj => (hkf.2 j (by omega) (by omega)).trans ((hnw.2.1 j (by omega)).trans (by rw [e103]))
      have e7 : σ2 103 7 = 0 := (hkf.2 7 (by omega) (by omega)).trans hnw.2.2.1
      obtain ⟨hK2, h56⟩ := jn_join (jv_po n (by omega)) hP3 hbd0 (fun c hc => f2 c (by omega) (by omega) (by omega)) (by rw [e13]; exact w4) (jx_pq_tr hq0 hm2) hKN
      have fa : ∀ c, c ≠ 13 → c ≠ 33 → c ≠ 34 → (c < p ∨ p + 5 < c) → (c < 47 ∨ 63 < c) → (c < 103 ∨ 106 < c) → (c < 121 ∨ 139 < c) → σ2 c = σ c := fun c d1 d2 d3 d4 d5 d6 d7 => (f2 c (by omega) (by omega) d7).trans (f1 c d1 d2 d3 d4 d5)
      have f13 : σ2 13 = σ3 13 := (f2 13 (by omega) (by omega) (by omega)).trans e13
      refine ⟨by rw [h56], ⟨p, C', hK2, ?_, jv_t0 (by rw [f13]; exact w3) e7, ⟨bl, jv_l_fr hl ⟨fun c hc => fa c (by omega) (by omega) (by omega) (by omega) (by omega) (by omega) (by omega), f103 16 (by omega)⟩⟩, jv_st_fr (fun c hc => fa c (by omega) (by omega) (by omega) (by omega) (by omega) (by omega) (by omega)) k5, jv_k_fr k6 ⟨fun c hc => fa c (by omega) (by omega) (by omega) (by omega) (by omega) (by omega) (by omega), by rw [f13]; exact w2 5 (by omega) (by omega) (by omega), f103 75 (by omega)⟩, by rw [fa 0 (by omega) (by omega) (by omega) (by omega) (by omega) (by omega) (by omega)]; exact k7⟩⟩
      rw [f13, w5]
      omega

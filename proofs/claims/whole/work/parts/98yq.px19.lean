/-! ===== the class: answers that are read off ===== -/
theorem jx_I0_box {n : Nat} {σ : jw_H} {o : Nat} {C : List (ge_R × Int)} (h : jx_I0 n σ o C) {j : Int} (j0 : 0 ≤ j) (j1 : j < 3) : σ (o + 5) j = σ 106 j := h.1.2.2.2.2.2.2 j j0 j1
theorem jx_I0_wt {n : Nat} {σ : jw_H} {o : Nat} {C : List (ge_R × Int)} (h : jx_I0 n σ o C) {w q : Int} (w0 : 0 ≤ w) (w1 : w < σ 103 4) (q0 : 0 ≤ q) (q1 : q < 3) : σ (o + 1) (3 * w + q) = σ 104 (3 * w + q) := h.1.2.2.2.2.1 _ (by omega) (by omega)
theorem jx_I0_pl {n : Nat} {σ : jw_H} {o : Nat} {C : List (ge_R × Int)} (h : jx_I0 n σ o C) {k : Int} (k0 : 0 ≤ k) (k1 : k < σ 103 5 + 2 * σ 103 3) : (∀ j, 0 ≤ j → j < 3 → jm_pf (jx_M σ o) k j = jm_pf σ k j) ∧ jm_if (jx_M σ o) k = jm_if σ k ∧ jm_kf (jx_M σ o) k = jm_kf σ k := by
  have hq := (jx_I0_x h).2.2.2.2.2.2.2.1.1
  exact ⟨fun j j0 j1 => jx_pq_pf h.1.2.2.2 k0 j0 j1, jx_pq_if h.1.2.2.2 k0 k1 hq.2, jx_pq_kf h.1.2.2.2 k0⟩
theorem jx_partK {n : Nat} {σ : jw_H} {u l j : Int} (hu : jm_bg u) (hl : 0 < l ∧ l ≤ 9200000000000000000) (hj : jw_rg j) : jw_T (js_S n) 3 174 [.inr (.inr 13), .inr (.inl u), .inr (.inl l), .inl j] σ (fun r σ' => r = some (.inr (.inl (jm_of u l j))) ∧ σ' = jx_fs σ 98 (jx_fr u l)) := by
  refine jw_T_mono (jx_partOf hu (by unfold jm_bg; omega) (by omega) hj) (Nat.le_refl _) ?_
  rintro r σ' ⟨rfl, h2⟩
  refine ⟨?_, h2⟩
  obtain ⟨e1, e2⟩ := jx_fr_of (u := u) hl.1
  congr 2
  unfold jm_of at *
  split
  · rw [e1, if_pos rfl]
  · rw [e2, if_neg (by omega)]
theorem jx_problemIs {n : Nat} {σ : jw_H} {o : Nat} {C : List (ge_R × Int)} (hK : jx_K n o C σ) {j : Int} (hj : jw_rg j) : jw_T (js_S n) 2 118 [.inr (.inr 13), .inl j] σ (fun r σ' => r = some (.inl (jm_pif σ j)) ∧ jx_fy σ σ') := by
  refine jw_T_of (D := 1) (M := mm_118) rfl (Nat.le_of_ble_eq_true rfl) (ls0 := [some (.inr (.inr 13)), some (.inl j)]) rfl ?_ (by rintro _ _ ⟨rfl, -⟩; rfl)
  have hI := hK.1
  obtain ⟨hto, hfo, hp, hP, e0, e1, e2, hPm, hcb, c0, p0, -⟩ := jx_I0_x hI
  have ho := hp.1
  have hq := hP.1
  have hw := hP.2.1
  have hq2 := hP.2.2.1
  have hcn := hcb.1
  have rhj := hj
  unfold jw_rg at rhj
  refine jw_W_n 1 (i' := 1) (ls' := [some (.inr (.inr 13)), some (.inl j)]) (st' := [.inl j]) rfl ?_
  refine jw_W_sw rfl (by unfold jw_rg; omega) rfl (fun hc1 => ?_) (fun hc1a hc1b t ht => ?_)
  · have hc1 : j < 0 ∨ 3 < j := hc1
    refine jw_W_n 2 (i' := 20) (ls' := [some (.inr (.inr 13)), some (.inl j)]) (st' := [.inl 10, .inl j]) rfl ?_
    refine jw_W_ic rfl (by unfold jw_rg; omega) (by unfold jw_rg; omega) (fun hc2 => ?_) (fun hc2 => ?_)
    · have hc2 : j < 10 := hc2
      refine jw_W_n 1 (i' := 37) (ls' := [some (.inr (.inr 13)), some (.inl j)]) (st' := [.inl ((-1))]) rfl ?_
      refine jw_W_ir rfl ?_
      refine ⟨?_, jx_fy_rf _⟩
      unfold jm_pif
      first
        | (rw [if_pos (by omega)]; rw [jx_I0_box hI (by omega) (by omega)])
        | rw [if_neg (by omega), if_pos (by omega), e0]
        | rw [if_neg (by omega), if_neg (by omega), if_pos (by omega), e1]
        | rw [if_neg (by omega), if_neg (by omega), if_neg (by omega), if_pos (by omega), e2]
        | rw [if_neg (by omega), if_neg (by omega), if_neg (by omega), if_neg (by omega), if_pos (by omega), e0, e2]
        | rw [if_neg (by omega), if_neg (by omega), if_neg (by omega), if_neg (by omega), if_neg (by omega)]
    · have hc2 : ¬ (j < 10) := hc2
      refine jw_W_n 3 (i' := 24) (ls' := [some (.inr (.inr 13)), some (.inl j)]) (st' := [.inr (.inr 13), .inl 10, .inl j]) rfl ?_
      refine jw_W_gf rfl rfl rfl ?_
      show jw_W (js_S n) _ md_118 25 [some (.inr (.inr 13)), some (.inl j)] [.inr (.inr ((σ 13 2).toNat)), .inl 10, .inl j] σ _
      rw [hto]
      refine jw_W_gf rfl hp.2.1 rfl ?_
      show jw_W (js_S n) _ md_118 26 [some (.inr (.inr 13)), some (.inl j)] [.inl (σ o 0), .inl 10, .inl j] σ _
      refine jw_W_n 1 (i' := 27) (ls' := [some (.inr (.inr 13)), some (.inl j)]) (st' := [.inl (10 + (σ o 0)), .inl j]) rfl ?_
      refine jw_W_ic rfl (by unfold jw_rg; omega) (by unfold jw_rg; omega) (fun hc3 => ?_) (fun hc3 => ?_)
      · have hc3 : j ≥ (10 + (σ o 0)) := hc3
        refine jw_W_n 1 (i' := 37) (ls' := [some (.inr (.inr 13)), some (.inl j)]) (st' := [.inl ((-1))]) rfl ?_
        refine jw_W_ir rfl ?_
        refine ⟨?_, jx_fy_rf _⟩
        unfold jm_pif
        first
          | (rw [if_pos (by omega)]; rw [jx_I0_box hI (by omega) (by omega)])
          | rw [if_neg (by omega), if_pos (by omega), e0]
          | rw [if_neg (by omega), if_neg (by omega), if_pos (by omega), e1]
          | rw [if_neg (by omega), if_neg (by omega), if_neg (by omega), if_pos (by omega), e2]
          | rw [if_neg (by omega), if_neg (by omega), if_neg (by omega), if_neg (by omega), if_pos (by omega), e0, e2]
          | rw [if_neg (by omega), if_neg (by omega), if_neg (by omega), if_neg (by omega), if_neg (by omega)]
      · have hc3 : ¬ (j ≥ (10 + (σ o 0))) := hc3
        refine jw_W_n 1 (i' := 29) (ls' := [some (.inr (.inr 13)), some (.inl j)]) (st' := [.inr (.inr 13)]) rfl ?_
        refine jw_W_gf rfl rfl rfl ?_
        show jw_W (js_S n) _ md_118 30 [some (.inr (.inr 13)), some (.inl j)] [.inr (.inr ((σ 13 2).toNat))] σ _
        rw [hto]
        refine jw_W_gf rfl hp.2.1 rfl ?_
        show jw_W (js_S n) _ md_118 31 [some (.inr (.inr 13)), some (.inl j)] [.inr (.inr (o + 5))] σ _
        refine jw_W_n 3 (i' := 34) (ls' := [some (.inr (.inr 13)), some (.inl j)]) (st' := [.inl (j - 10), .inr (.inr (o + 5))]) rfl ?_
        refine jw_W_ia rfl hp.2.2.2.2.2.2 (by omega) (by omega) (by omega) ?_
        show jw_W (js_S n) _ md_118 35 [some (.inr (.inr 13)), some (.inl j)] [.inl (σ (o + 5) (j - 10))] σ _
        refine jw_W_n 1 (i' := 37) (ls' := [some (.inr (.inr 13)), some (.inl j)]) (st' := [.inl (σ (o + 5) (j - 10))]) rfl ?_
        refine jw_W_ir rfl ?_
        refine ⟨?_, jx_fy_rf _⟩
        unfold jm_pif
        first
          | (rw [if_pos (by omega)]; rw [jx_I0_box hI (by omega) (by omega)])
          | rw [if_neg (by omega), if_pos (by omega), e0]
          | rw [if_neg (by omega), if_neg (by omega), if_pos (by omega), e1]
          | rw [if_neg (by omega), if_neg (by omega), if_neg (by omega), if_pos (by omega), e2]
          | rw [if_neg (by omega), if_neg (by omega), if_neg (by omega), if_neg (by omega), if_pos (by omega), e0, e2]
          | rw [if_neg (by omega), if_neg (by omega), if_neg (by omega), if_neg (by omega), if_neg (by omega)]
  · rcases (show j = 0 ∨ j = 1 ∨ j = 2 ∨ j = 3 by omega) with hc1 | hc1 | hc1 | hc1
    · obtain rfl : 2 = t := by rw [hc1] at ht; exact Option.some.inj ht
      refine jw_W_n 1 (i' := 3) (ls' := [some (.inr (.inr 13)), some (.inl j)]) (st' := [.inr (.inr 13)]) rfl ?_
      refine jw_W_gf rfl rfl rfl ?_
      show jw_W (js_S n) _ md_118 4 [some (.inr (.inr 13)), some (.inl j)] [.inr (.inr ((σ 13 2).toNat))] σ _
      rw [hto]
      refine jw_W_gf rfl hp.2.1 rfl ?_
      show jw_W (js_S n) _ md_118 5 [some (.inr (.inr 13)), some (.inl j)] [.inl (σ o 0)] σ _
      refine jw_W_ir rfl ?_
      refine ⟨?_, jx_fy_rf _⟩
      unfold jm_pif
      first
        | (rw [if_pos (by omega)]; rw [jx_I0_box hI (by omega) (by omega)])
        | rw [if_neg (by omega), if_pos (by omega), e0]
        | rw [if_neg (by omega), if_neg (by omega), if_pos (by omega), e1]
        | rw [if_neg (by omega), if_neg (by omega), if_neg (by omega), if_pos (by omega), e2]
        | rw [if_neg (by omega), if_neg (by omega), if_neg (by omega), if_neg (by omega), if_pos (by omega), e0, e2]
        | rw [if_neg (by omega), if_neg (by omega), if_neg (by omega), if_neg (by omega), if_neg (by omega)]
    · obtain rfl : 6 = t := by rw [hc1] at ht; exact Option.some.inj ht
      refine jw_W_n 1 (i' := 7) (ls' := [some (.inr (.inr 13)), some (.inl j)]) (st' := [.inr (.inr 13)]) rfl ?_
      refine jw_W_gf rfl rfl rfl ?_
      show jw_W (js_S n) _ md_118 8 [some (.inr (.inr 13)), some (.inl j)] [.inr (.inr ((σ 13 2).toNat))] σ _
      rw [hto]
      refine jw_W_gf rfl hp.2.1 rfl ?_
      show jw_W (js_S n) _ md_118 9 [some (.inr (.inr 13)), some (.inl j)] [.inl (σ o 1)] σ _
      refine jw_W_ir rfl ?_
      refine ⟨?_, jx_fy_rf _⟩
      unfold jm_pif
      first
        | (rw [if_pos (by omega)]; rw [jx_I0_box hI (by omega) (by omega)])
        | rw [if_neg (by omega), if_pos (by omega), e0]
        | rw [if_neg (by omega), if_neg (by omega), if_pos (by omega), e1]
        | rw [if_neg (by omega), if_neg (by omega), if_neg (by omega), if_pos (by omega), e2]
        | rw [if_neg (by omega), if_neg (by omega), if_neg (by omega), if_neg (by omega), if_pos (by omega), e0, e2]
        | rw [if_neg (by omega), if_neg (by omega), if_neg (by omega), if_neg (by omega), if_neg (by omega)]
    · obtain rfl : 10 = t := by rw [hc1] at ht; exact Option.some.inj ht
      refine jw_W_n 1 (i' := 11) (ls' := [some (.inr (.inr 13)), some (.inl j)]) (st' := [.inr (.inr 13)]) rfl ?_
      refine jw_W_gf rfl rfl rfl ?_
      show jw_W (js_S n) _ md_118 12 [some (.inr (.inr 13)), some (.inl j)] [.inr (.inr ((σ 13 2).toNat))] σ _
      rw [hto]
      refine jw_W_gf rfl hp.2.1 rfl ?_
      show jw_W (js_S n) _ md_118 13 [some (.inr (.inr 13)), some (.inl j)] [.inl (σ o 2)] σ _
      refine jw_W_ir rfl ?_
      refine ⟨?_, jx_fy_rf _⟩
      unfold jm_pif
      first
        | (rw [if_pos (by omega)]; rw [jx_I0_box hI (by omega) (by omega)])
        | rw [if_neg (by omega), if_pos (by omega), e0]
        | rw [if_neg (by omega), if_neg (by omega), if_pos (by omega), e1]
        | rw [if_neg (by omega), if_neg (by omega), if_neg (by omega), if_pos (by omega), e2]
        | rw [if_neg (by omega), if_neg (by omega), if_neg (by omega), if_neg (by omega), if_pos (by omega), e0, e2]
        | rw [if_neg (by omega), if_neg (by omega), if_neg (by omega), if_neg (by omega), if_neg (by omega)]
    · obtain rfl : 14 = t := by rw [hc1] at ht; exact Option.some.inj ht
      refine jw_W_n 1 (i' := 15) (ls' := [some (.inr (.inr 13)), some (.inl j)]) (st' := [.inr (.inr 13)]) rfl ?_
      refine jw_W_gf rfl rfl rfl ?_
      show jw_W (js_S n) _ md_118 16 [some (.inr (.inr 13)), some (.inl j)] [.inr (.inr ((σ 13 2).toNat))] σ _
      rw [hto]
      refine jw_W_call (as := [.inr (.inr o)]) (rest := []) rfl rfl rfl rfl (Nat.le_of_ble_eq_true rfl) (.inr (jx_rc hp.2.1)) (jx_planes hp) (by omega) ?_ rfl
      rintro r1 σz ⟨rfl, hs⟩
      rw [hs]
      show jw_W (js_S n) _ md_118 17 [some (.inr (.inr 13)), some (.inl j)] [.inl (σ o 2 + 2 * σ o 0)] σ _
      refine jw_W_ir rfl ?_
      refine ⟨?_, jx_fy_rf _⟩
      unfold jm_pif
      first
        | (rw [if_pos (by omega)]; rw [jx_I0_box hI (by omega) (by omega)])
        | rw [if_neg (by omega), if_pos (by omega), e0]
        | rw [if_neg (by omega), if_neg (by omega), if_pos (by omega), e1]
        | rw [if_neg (by omega), if_neg (by omega), if_neg (by omega), if_pos (by omega), e2]
        | rw [if_neg (by omega), if_neg (by omega), if_neg (by omega), if_neg (by omega), if_pos (by omega), e0, e2]
        | rw [if_neg (by omega), if_neg (by omega), if_neg (by omega), if_neg (by omega), if_neg (by omega)]
theorem jx_wish {n : Nat} {σ : jw_H} {o : Nat} {C : List (ge_R × Int)} (hK : jx_K n o C σ) {w q : Int} (hwr : jw_rg w) (hqr : jw_rg q) : jw_T (js_S n) 2 119 [.inr (.inr 13), .inl w, .inl q] σ (fun r σ' => r = some (.inl (if (0 ≤ w ∧ w < σ 103 4) ∧ (0 ≤ q ∧ q < σ 103 3) then σ 104 (3 * w + q) else -100000)) ∧ jx_fy σ σ') := by
  refine jw_T_of (D := 1) (M := mm_119) rfl (Nat.le_of_ble_eq_true rfl) (ls0 := [some (.inr (.inr 13)), some (.inl w), some (.inl q)]) rfl ?_ (by rintro _ _ ⟨rfl, -⟩; rfl)
  have hI := hK.1
  obtain ⟨hto, hfo, hp, hP, e0, e1, e2, hPm, hcb, c0, p0, -⟩ := jx_I0_x hI
  have ho := hp.1
  have hq := hP.1
  have hw := hP.2.1
  have hq2 := hP.2.2.1
  have hcn := hcb.1
  have rhwr := hwr
  unfold jw_rg at rhwr
  have rhqr := hqr
  unfold jw_rg at rhqr
  refine jw_W_n 2 (i' := 2) (ls' := [some (.inr (.inr 13)), some (.inl w), some (.inl q)]) (st' := [.inl w, .inr (.inr 13)]) rfl ?_
  refine jw_W_call (as := [.inr (.inr 13), .inl w]) (rest := []) rfl rfl rfl rfl (Nat.le_of_ble_eq_true rfl) (.inr rfl) (jx_isWish hK hwr) (by omega) ?_ rfl
  rintro r1 σz (⟨rfl, hs, q1⟩ | ⟨rfl, hs, q1⟩)
  · rw [hs]
    show jw_W (js_S n) _ md_119 3 [some (.inr (.inr 13)), some (.inl w), some (.inl q)] [.inl 1] σ _
    refine jw_W_if rfl (by unfold jw_rg; omega) (fun hc1 => ?_) (fun hc1 => ?_)
    · exact absurd hc1 (show ¬ ((1 : Int) = 0) by omega)
    · clear hc1
      refine jw_W_n 1 (i' := 5) (ls' := [some (.inr (.inr 13)), some (.inl w), some (.inl q)]) (st' := [.inl q]) rfl ?_
      refine jw_W_if rfl (by unfold jw_rg; omega) (fun hc2 => ?_) (fun hc2 => ?_)
      · have hc2 : q < 0 := hc2
        refine jw_W_ldc (z := (-100000)) rfl rfl ?_
        refine jw_W_ir rfl ?_
        exact ⟨by rw [if_neg (by omega)], jx_fy_rf _⟩
      · have hc2 : ¬ (q < 0) := hc2
        refine jw_W_n 2 (i' := 8) (ls' := [some (.inr (.inr 13)), some (.inl w), some (.inl q)]) (st' := [.inr (.inr 13), .inl q]) rfl ?_
        refine jw_W_gf rfl rfl rfl ?_
        show jw_W (js_S n) _ md_119 9 [some (.inr (.inr 13)), some (.inl w), some (.inl q)] [.inr (.inr ((σ 13 2).toNat)), .inl q] σ _
        rw [hto]
        refine jw_W_gf rfl hp.2.1 rfl ?_
        show jw_W (js_S n) _ md_119 10 [some (.inr (.inr 13)), some (.inl w), some (.inl q)] [.inl (σ o 0), .inl q] σ _
        refine jw_W_ic rfl (by unfold jw_rg; omega) (by unfold jw_rg; omega) (fun hc3 => ?_) (fun hc3 => ?_)
        · have hc3 : q < (σ o 0) := hc3
          refine jw_W_n 1 (i' := 14) (ls' := [some (.inr (.inr 13)), some (.inl w), some (.inl q)]) (st' := [.inr (.inr 13)]) rfl ?_
          refine jw_W_gf rfl rfl rfl ?_
          show jw_W (js_S n) _ md_119 15 [some (.inr (.inr 13)), some (.inl w), some (.inl q)] [.inr (.inr ((σ 13 2).toNat))] σ _
          rw [hto]
          refine jw_W_gf rfl hp.2.1 rfl ?_
          show jw_W (js_S n) _ md_119 16 [some (.inr (.inr 13)), some (.inl w), some (.inl q)] [.inr (.inr (o + 1))] σ _
          refine jw_W_n 5 (i' := 21) (ls' := [some (.inr (.inr 13)), some (.inl w), some (.inl q)]) (st' := [.inl ((3 * w) + q), .inr (.inr (o + 1))]) rfl ?_
          refine jw_W_ia rfl hp.2.2.1 (by omega) (by omega) (by omega) ?_
          show jw_W (js_S n) _ md_119 22 [some (.inr (.inr 13)), some (.inl w), some (.inl q)] [.inl (σ (o + 1) ((3 * w) + q))] σ _
          refine jw_W_ir rfl ?_
          exact ⟨by rw [if_pos (by omega), jx_I0_wt hI (by omega) (by omega) (by omega) (by omega)], jx_fy_rf _⟩
        · have hc3 : ¬ (q < (σ o 0)) := hc3
          refine jw_W_ldc (z := (-100000)) rfl rfl ?_
          refine jw_W_ir rfl ?_
          exact ⟨by rw [if_neg (by omega)], jx_fy_rf _⟩
  · rw [hs]
    show jw_W (js_S n) _ md_119 3 [some (.inr (.inr 13)), some (.inl w), some (.inl q)] [.inl 0] σ _
    refine jw_W_if rfl (by unfold jw_rg; omega) (fun hc4 => ?_) (fun hc4 => ?_)
    · clear hc4
      refine jw_W_ldc (z := (-100000)) rfl rfl ?_
      refine jw_W_ir rfl ?_
      exact ⟨by rw [if_neg (by omega)], jx_fy_rf _⟩
    · exact absurd hc4 (show ¬ ¬ ((0 : Int) = 0) by omega)
theorem jx_plane {n : Nat} {σ : jw_H} {o : Nat} {C : List (ge_R × Int)} (hK : jx_K n o C σ) {k j : Int} (hk : jw_rg k) (hj : jw_rg j) : jw_T (js_S n) 3 120 [.inr (.inr 13), .inl k, .inl j] σ (fun r σ' => r = some (.inl (jm_plf σ k j)) ∧ jx_fy σ σ') := by
  refine jw_T_of (D := 2) (M := mm_120) rfl (Nat.le_of_ble_eq_true rfl) (ls0 := [some (.inr (.inr 13)), some (.inl k), some (.inl j)]) rfl ?_ (by rintro _ _ ⟨rfl, -⟩; rfl)
  have hI := hK.1
  obtain ⟨hto, hfo, hp, hP, e0, e1, e2, hPm, hcb, c0, p0, -⟩ := jx_I0_x hI
  have ho := hp.1
  have hq := hP.1
  have hw := hP.2.1
  have hq2 := hP.2.2.1
  have hcn := hcb.1
  have rhk := hk
  unfold jw_rg at rhk
  have rhj := hj
  unfold jw_rg at rhj
  refine jw_W_n 2 (i' := 2) (ls' := [some (.inr (.inr 13)), some (.inl k), some (.inl j)]) (st' := [.inl k, .inr (.inr 13)]) rfl ?_
  refine jw_W_call (as := [.inr (.inr 13), .inl k]) (rest := []) rfl rfl rfl rfl (Nat.le_of_ble_eq_true rfl) (.inr rfl) (jx_isPlane hK hk) (by omega) ?_ rfl
  rintro r1 σz (⟨rfl, hs, q2⟩ | ⟨rfl, hs, q2⟩)
  · rw [hs]
    show jw_W (js_S n) _ md_120 3 [some (.inr (.inr 13)), some (.inl k), some (.inl j)] [.inl 1] σ _
    refine jw_W_if rfl (by unfold jw_rg; omega) (fun hc1 => ?_) (fun hc1 => ?_)
    · exact absurd hc1 (show ¬ ((1 : Int) = 0) by omega)
    · clear hc1
      refine jw_W_n 1 (i' := 5) (ls' := [some (.inr (.inr 13)), some (.inl k), some (.inl j)]) (st' := [.inl j]) rfl ?_
      refine jw_W_if rfl (by unfold jw_rg; omega) (fun hc2 => ?_) (fun hc2 => ?_)
      · have hc2 : j < 0 := hc2
        refine jw_W_ldc (z := (-100000)) rfl rfl ?_
        refine jw_W_ir rfl ?_
        exact ⟨by unfold jm_plf; rw [if_neg (by omega)], jx_fy_rf _⟩
      · have hc2 : ¬ (j < 0) := hc2
        refine jw_W_n 2 (i' := 8) (ls' := [some (.inr (.inr 13)), some (.inl k), some (.inl j)]) (st' := [.inl 4, .inl j]) rfl ?_
        refine jw_W_ic rfl (by unfold jw_rg; omega) (by unfold jw_rg; omega) (fun hc3 => ?_) (fun hc3 => ?_)
        · have hc3 : j ≤ 4 := hc3
          refine jw_W_n 2 (i' := 13) (ls' := [some (.inr (.inr 13)), some (.inl k), some (.inl j)]) (st' := [.inl 3, .inl j]) rfl ?_
          refine jw_W_ic rfl (by unfold jw_rg; omega) (by unfold jw_rg; omega) (fun hc4 => ?_) (fun hc4 => ?_)
          · have hc4 : j ≠ 3 := hc4
            refine jw_W_n 2 (i' := 21) (ls' := [some (.inr (.inr 13)), some (.inl k), some (.inl j)]) (st' := [.inl 4, .inl j]) rfl ?_
            refine jw_W_ic rfl (by unfold jw_rg; omega) (by unfold jw_rg; omega) (fun hc5 => ?_) (fun hc5 => ?_)
            · have hc5 : j ≠ 4 := hc5
              refine jw_W_n 1 (i' := 28) (ls' := [some (.inr (.inr 13)), some (.inl k), some (.inl j)]) (st' := [.inr (.inr 13)]) rfl ?_
              refine jw_W_gf rfl rfl rfl ?_
              show jw_W (js_S n) _ md_120 29 [some (.inr (.inr 13)), some (.inl k), some (.inl j)] [.inr (.inr ((σ 13 2).toNat))] σ _
              rw [hto]
              refine jw_W_n 2 (i' := 31) (ls' := [some (.inr (.inr 13)), some (.inl k), some (.inl j)]) (st' := [.inl j, .inl k, .inr (.inr o)]) rfl ?_
              refine jw_W_call (as := [.inr (.inr o), .inl k, .inl j]) (rest := []) rfl rfl rfl rfl (Nat.le_of_ble_eq_true rfl) (.inr (jx_rc hp.2.1)) (jx_takes hp hP (by omega) (by omega) (by omega) (by omega)) (by omega) ?_ rfl
              rintro r1 σz ⟨rfl, hs⟩
              rw [hs]
              show jw_W (js_S n) _ md_120 32 [some (.inr (.inr 13)), some (.inl k), some (.inl j)] [.inl (jm_pf (jx_M σ o) k j)] σ _
              refine jw_W_ir rfl ?_
              exact ⟨by unfold jm_plf; rw [if_pos (by omega), if_pos (by omega), (jx_I0_pl hI (by omega) (by omega)).1 j (by omega) (by omega)], jx_fy_rf _⟩
            · have hc5 : j = 4 := Classical.not_not.mp hc5
              refine jw_W_n 1 (i' := 23) (ls' := [some (.inr (.inr 13)), some (.inl k), some (.inl j)]) (st' := [.inr (.inr 13)]) rfl ?_
              refine jw_W_gf rfl rfl rfl ?_
              show jw_W (js_S n) _ md_120 24 [some (.inr (.inr 13)), some (.inl k), some (.inl j)] [.inr (.inr ((σ 13 2).toNat))] σ _
              rw [hto]
              refine jw_W_n 1 (i' := 25) (ls' := [some (.inr (.inr 13)), some (.inl k), some (.inl j)]) (st' := [.inl k, .inr (.inr o)]) rfl ?_
              refine jw_W_call (as := [.inr (.inr o), .inl k]) (rest := []) rfl rfl rfl rfl (Nat.le_of_ble_eq_true rfl) (.inr (jx_rc hp.2.1)) (jx_kind hp hP (by omega) (by omega)) (by omega) ?_ rfl
              rintro r1 σz ⟨rfl, hs⟩
              rw [hs]
              show jw_W (js_S n) _ md_120 26 [some (.inr (.inr 13)), some (.inl k), some (.inl j)] [.inl (jm_kf (jx_M σ o) k)] σ _
              refine jw_W_n 1 (i' := 32) (ls' := [some (.inr (.inr 13)), some (.inl k), some (.inl j)]) (st' := [.inl (jm_kf (jx_M σ o) k)]) rfl ?_
              refine jw_W_ir rfl ?_
              exact ⟨by unfold jm_plf; rw [if_pos (by omega), if_neg (by omega), if_neg (by omega), (jx_I0_pl hI (by omega) (by omega)).2.2], jx_fy_rf _⟩
          · have hc4 : j = 3 := Classical.not_not.mp hc4
            refine jw_W_n 1 (i' := 15) (ls' := [some (.inr (.inr 13)), some (.inl k), some (.inl j)]) (st' := [.inr (.inr 13)]) rfl ?_
            refine jw_W_gf rfl rfl rfl ?_
            show jw_W (js_S n) _ md_120 16 [some (.inr (.inr 13)), some (.inl k), some (.inl j)] [.inr (.inr ((σ 13 2).toNat))] σ _
            rw [hto]
            refine jw_W_n 1 (i' := 17) (ls' := [some (.inr (.inr 13)), some (.inl k), some (.inl j)]) (st' := [.inl k, .inr (.inr o)]) rfl ?_
            refine jw_W_call (as := [.inr (.inr o), .inl k]) (rest := []) rfl rfl rfl rfl (Nat.le_of_ble_eq_true rfl) (.inr (jx_rc hp.2.1)) (jx_number hp hP (by omega) (by omega)) (by omega) ?_ rfl
            rintro r1 σz ⟨rfl, hs⟩
            rw [hs]
            show jw_W (js_S n) _ md_120 18 [some (.inr (.inr 13)), some (.inl k), some (.inl j)] [.inl (jm_if (jx_M σ o) k)] σ _
            refine jw_W_ir rfl ?_
            exact ⟨by unfold jm_plf; rw [if_pos (by omega), if_neg (by omega), if_pos (by omega), (jx_I0_pl hI (by omega) (by omega)).2.1], jx_fy_rf _⟩
        · have hc3 : ¬ (j ≤ 4) := hc3
          refine jw_W_ldc (z := (-100000)) rfl rfl ?_
          refine jw_W_ir rfl ?_
          exact ⟨by unfold jm_plf; rw [if_neg (by omega)], jx_fy_rf _⟩
  · rw [hs]
    show jw_W (js_S n) _ md_120 3 [some (.inr (.inr 13)), some (.inl k), some (.inl j)] [.inl 0] σ _
    refine jw_W_if rfl (by unfold jw_rg; omega) (fun hc6 => ?_) (fun hc6 => ?_)
    · clear hc6
      refine jw_W_ldc (z := (-100000)) rfl rfl ?_
      refine jw_W_ir rfl ?_
      exact ⟨by unfold jm_plf; rw [if_neg (by omega)], jx_fy_rf _⟩
    · exact absurd hc6 (show ¬ ¬ ((0 : Int) = 0) by omega)
theorem jx_cc_r {σ : jw_H} {i q : Int} (hb : jm_cbd σ) (i0 : 0 ≤ i) (i1 : i < σ 103 56) : -1458 ≤ jm_cc σ i q ∧ jm_cc σ i q ≤ 1458 := by
  obtain ⟨⟨⟨x0, x1⟩, ⟨y0, y1⟩, ⟨z0, z1⟩, -⟩, -⟩ := hb.2 i i0 i1
  simp only [jm_ct] at x0 x1 y0 y1 z0 z1
  unfold jm_cc
  split
  · omega
  · split <;> omega
theorem jx_I0_d {n : Nat} {σ : jw_H} {o : Nat} {C : List (ge_R × Int)} (h : jx_I0 n σ o C) {i : Int} (i0 : 0 ≤ i) (i1 : i < σ 103 56) : σ 62 i = σ 135 i := by
  have := (jx_I0_c h i0 i1).1
  exact congrArg (fun v : ge_R => v.2.2.2) this
theorem jx_I0_xyz {n : Nat} {σ : jw_H} {o : Nat} {C : List (ge_R × Int)} (h : jx_I0 n σ o C) {i : Int} (i0 : 0 ≤ i) (i1 : i < σ 103 56) : σ 59 i = σ 132 i ∧ σ 60 i = σ 133 i ∧ σ 61 i = σ 134 i := by
  have := (jx_I0_c h i0 i1).1
  exact ⟨congrArg (fun v : ge_R => v.1) this, congrArg (fun v : ge_R => v.2.1) this, congrArg (fun v : ge_R => v.2.2.1) this⟩
theorem jx_corner {n : Nat} {σ : jw_H} {o : Nat} {C : List (ge_R × Int)} (hK : jx_K n o C σ) {i j : Int} (hi : jw_rg i) (hj : jw_rg j) : jw_T (js_S n) 4 121 [.inr (.inr 13), .inl i, .inl j] σ (fun r σ' => r = some (.inr (.inl (jm_cf σ i j))) ∧ jx_fy σ σ') := by
  refine jw_T_of (D := 3) (M := mm_121) rfl (Nat.le_of_ble_eq_true rfl) (ls0 := [some (.inr (.inr 13)), some (.inl i), some (.inl j)]) rfl ?_ (by rintro _ _ ⟨rfl, -⟩; rfl)
  have hI := hK.1
  obtain ⟨hto, hfo, hp, hP, e0, e1, e2, hPm, hcb, c0, p0, -⟩ := jx_I0_x hI
  have ho := hp.1
  have hq := hP.1
  have hw := hP.2.1
  have hq2 := hP.2.2.1
  have hcn := hcb.1
  have rhi := hi
  unfold jw_rg at rhi
  have rhj := hj
  unfold jw_rg at rhj
  refine jw_W_n 1 (i' := 1) (ls' := [some (.inr (.inr 13)), some (.inl i), some (.inl j)]) (st' := [.inl i]) rfl ?_
  refine jw_W_if rfl (by unfold jw_rg; omega) (fun hc1 => ?_) (fun hc1 => ?_)
  · have hc1 : i < 0 := hc1
    refine jw_W_ld2 (z := (-1)) rfl rfl ?_
    refine jw_W_lr rfl ?_
    refine ⟨?_, jx_fy_rf _⟩
    unfold jm_cf
    first | rw [if_pos (by omega)] | rw [if_neg (by omega), if_pos (by omega)] | rw [if_neg (by omega), if_neg (by omega)] | rw [if_neg (by omega)]
  · have hc1 : ¬ (i < 0) := hc1
    refine jw_W_n 2 (i' := 4) (ls' := [some (.inr (.inr 13)), some (.inl i), some (.inl j)]) (st' := [.inl j, .inr (.inr 13)]) rfl ?_
    refine jw_W_call (as := [.inr (.inr 13), .inl j]) (rest := []) rfl rfl rfl rfl (Nat.le_of_ble_eq_true rfl) (.inr rfl) (jx_isPartOfPlan hK hj) (by omega) ?_ rfl
    rintro r1 σz (⟨rfl, hs, q3⟩ | ⟨rfl, hs, q3⟩)
    · rw [hs]
      show jw_W (js_S n) _ md_121 5 [some (.inr (.inr 13)), some (.inl i), some (.inl j)] [.inl 1] σ _
      refine jw_W_if rfl (by unfold jw_rg; omega) (fun hc2 => ?_) (fun hc2 => ?_)
      · clear hc2
        refine jw_W_n 2 (i' := 10) (ls' := [some (.inr (.inr 13)), some (.inl i), some (.inl j)]) (st' := [.inr (.inr 13), .inl i]) rfl ?_
        refine jw_W_gf rfl rfl rfl ?_
        show jw_W (js_S n) _ md_121 11 [some (.inr (.inr 13)), some (.inl i), some (.inl j)] [.inr (.inr 57), .inl i] σ _
        refine jw_W_gf rfl rfl rfl ?_
        show jw_W (js_S n) _ md_121 12 [some (.inr (.inr 13)), some (.inl i), some (.inl j)] [.inl (σ 57 0), .inl i] σ _
        refine jw_W_ic rfl (by unfold jw_rg; omega) (by unfold jw_rg; omega) (fun hc3 => ?_) (fun hc3 => ?_)
        · have hc3 : i < (σ 57 0) := hc3
          refine jw_W_n 2 (i' := 17) (ls' := [some (.inr (.inr 13)), some (.inl i), some (.inl j)]) (st' := [.inr (.inr 13), .inr (.inr 13)]) rfl ?_
          refine jw_W_gf rfl rfl rfl ?_
          show jw_W (js_S n) _ md_121 18 [some (.inr (.inr 13)), some (.inl i), some (.inl j)] [.inr (.inr 57), .inr (.inr 13)] σ _
          refine jw_W_gf rfl rfl rfl ?_
          show jw_W (js_S n) _ md_121 19 [some (.inr (.inr 13)), some (.inl i), some (.inl j)] [.inr (.inr 58), .inr (.inr 13)] σ _
          refine jw_W_n 3 (i' := 22) (ls' := [some (.inr (.inr 13)), some (.inl i), some (.inl j)]) (st' := [.inl 2, .inl j, .inl i, .inr (.inr 58), .inr (.inr 13)]) rfl ?_
          refine jw_W_idiv rfl (by unfold jw_rg; omega) (by omega) ?_
          rw [(jm_half j (by omega) (by omega)).1]
          refine jw_W_call (as := [.inr (.inr 58), .inl i, .inl (j / 2)]) (rest := [.inr (.inr 13)]) rfl rfl rfl rfl (Nat.le_of_ble_eq_true rfl) (.inr rfl) (jx_at (jx_pp_58 n) (by omega) (by omega) (by unfold jw_rg; omega)) (by omega) ?_ rfl
          rintro r1 σz ⟨rfl, hs⟩
          rw [hs, (jx_I0_c hI (by omega) (by omega)).1]
          rw [show jm_co (jm_ct σ i) (j / 2) = jm_cc σ i (j / 2) from rfl]
          have hcc := jm_cc_bd (q := j / 2) hcb (i := i) (by omega) (by omega)
          have hcr : -1458 ≤ jm_cc σ i (j / 2) ∧ jm_cc σ i (j / 2) ≤ 1458 := jx_cc_r hcb (i := i) (by omega) (by omega)
          have hdi : σ 62 i = σ 135 i := jx_I0_d hI (by omega) (by omega)
          have hd2 := (hcb.2 i (by omega) (by omega)).2
          have hd2 : σ 135 i ≤ 162 := hd2
          show jw_W (js_S n) _ md_121 24 [some (.inr (.inr 13)), some (.inl i), some (.inl j)] [.inl (jm_cc σ i (j / 2)), .inr (.inr 13)] σ _
          refine jw_W_i2l rfl (by unfold jw_rg; omega) ?_
          refine jw_W_n 1 (i' := 26) (ls' := [some (.inr (.inr 13)), some (.inl i), some (.inl j)]) (st' := [.inr (.inr 13), .inr (.inl (jm_cc σ i (j / 2))), .inr (.inr 13)]) rfl ?_
          refine jw_W_gf rfl rfl rfl ?_
          show jw_W (js_S n) _ md_121 27 [some (.inr (.inr 13)), some (.inl i), some (.inl j)] [.inr (.inr 57), .inr (.inl (jm_cc σ i (j / 2))), .inr (.inr 13)] σ _
          refine jw_W_gf rfl rfl rfl ?_
          show jw_W (js_S n) _ md_121 28 [some (.inr (.inr 13)), some (.inl i), some (.inl j)] [.inr (.inr 58), .inr (.inl (jm_cc σ i (j / 2))), .inr (.inr 13)] σ _
          refine jw_W_gf rfl rfl rfl ?_
          show jw_W (js_S n) _ md_121 29 [some (.inr (.inr 13)), some (.inl i), some (.inl j)] [.inr (.inr 62), .inr (.inl (jm_cc σ i (j / 2))), .inr (.inr 13)] σ _
          refine jw_W_n 1 (i' := 30) (ls' := [some (.inr (.inr 13)), some (.inl i), some (.inl j)]) (st' := [.inl i, .inr (.inr 62), .inr (.inl (jm_cc σ i (j / 2))), .inr (.inr 13)]) rfl ?_
          refine jw_W_ia rfl rfl (by omega) (by omega) (by omega) ?_
          show jw_W (js_S n) _ md_121 31 [some (.inr (.inr 13)), some (.inl i), some (.inl j)] [.inl (σ 62 i), .inr (.inl (jm_cc σ i (j / 2))), .inr (.inr 13)] σ _
          refine jw_W_i2l rfl (by unfold jw_rg; omega) ?_
          refine jw_W_n 2 (i' := 34) (ls' := [some (.inr (.inr 13)), some (.inl i), some (.inl j)]) (st' := [.inl 2, .inl j, .inr (.inl (σ 62 i)), .inr (.inl (jm_cc σ i (j / 2))), .inr (.inr 13)]) rfl ?_
          refine jw_W_irem rfl (by unfold jw_rg; omega) (by omega) ?_
          rw [(jm_half j (by omega) (by omega)).2, hdi]
          refine jw_W_call (as := [.inr (.inr 13), .inr (.inl (jm_cc σ i (j / 2))), .inr (.inl (σ 135 i)), .inl (j % 2)]) (rest := []) rfl rfl rfl rfl (Nat.le_of_ble_eq_true rfl) (.inr rfl) (jx_partK hcc.1 hcc.2 (by unfold jw_rg; omega)) (by omega) ?_ rfl
          rintro r1 σz ⟨rfl, hs⟩
          rw [hs]
          show jw_W (js_S n) _ md_121 36 [some (.inr (.inr 13)), some (.inl i), some (.inl j)] [.inr (.inl (jm_of (jm_cc σ i (j / 2)) (σ 135 i) (j % 2)))] ((jx_fs σ 98 (jx_fr (jm_cc σ i (j / 2)) (σ 135 i)))) _
          refine jw_W_lr rfl ?_
          refine ⟨?_, jx_fy_fs (jx_fy_rf _) (by omega)⟩
          unfold jm_cf
          first | rw [if_pos (by omega)] | rw [if_neg (by omega), if_pos (by omega)] | rw [if_neg (by omega), if_neg (by omega)] | rw [if_neg (by omega)]
        · have hc3 : ¬ (i < (σ 57 0)) := hc3
          refine jw_W_ld2 (z := (-4)) rfl rfl ?_
          refine jw_W_lr rfl ?_
          refine ⟨?_, jx_fy_rf _⟩
          unfold jm_cf
          first | rw [if_pos (by omega)] | rw [if_neg (by omega), if_pos (by omega)] | rw [if_neg (by omega), if_neg (by omega)] | rw [if_neg (by omega)]
      · exact absurd hc2 (show ¬ ¬ ((1 : Int) ≠ 0) by omega)
    · rw [hs]
      show jw_W (js_S n) _ md_121 5 [some (.inr (.inr 13)), some (.inl i), some (.inl j)] [.inl 0] σ _
      refine jw_W_if rfl (by unfold jw_rg; omega) (fun hc4 => ?_) (fun hc4 => ?_)
      · exact absurd hc4 (show ¬ ((0 : Int) ≠ 0) by omega)
      · clear hc4
        refine jw_W_ld2 (z := (-1)) rfl rfl ?_
        refine jw_W_lr rfl ?_
        refine ⟨?_, jx_fy_rf _⟩
        unfold jm_cf
        first | rw [if_pos (by omega)] | rw [if_neg (by omega), if_pos (by omega)] | rw [if_neg (by omega), if_neg (by omega)] | rw [if_neg (by omega)]
theorem jx_wishAt {n : Nat} {σ : jw_H} {o : Nat} {C : List (ge_R × Int)} (hK : jx_K n o C σ) {i w j : Int} (hi : jw_rg i) (hwr : jw_rg w) (hj : jw_rg j) : jw_T (js_S n) 4 122 [.inr (.inr 13), .inl i, .inl w, .inl j] σ (fun r σ' => r = some (.inr (.inl (jm_waf σ i w j))) ∧ jx_fy σ σ') := by
  refine jw_T_of (D := 3) (M := mm_122) rfl (Nat.le_of_ble_eq_true rfl) (ls0 := [some (.inr (.inr 13)), some (.inl i), some (.inl w), some (.inl j)]) rfl ?_ (by rintro _ _ ⟨rfl, -⟩; rfl)
  have hI := hK.1
  obtain ⟨hto, hfo, hp, hP, e0, e1, e2, hPm, hcb, c0, p0, -⟩ := jx_I0_x hI
  have ho := hp.1
  have hq := hP.1
  have hw := hP.2.1
  have hq2 := hP.2.2.1
  have hcn := hcb.1
  have rhi := hi
  unfold jw_rg at rhi
  have rhwr := hwr
  unfold jw_rg at rhwr
  have rhj := hj
  unfold jw_rg at rhj
  refine jw_W_n 2 (i' := 2) (ls' := [some (.inr (.inr 13)), some (.inl i), some (.inl w), some (.inl j)]) (st' := [.inl i, .inr (.inr 13)]) rfl ?_
  refine jw_W_call (as := [.inr (.inr 13), .inl i]) (rest := []) rfl rfl rfl rfl (Nat.le_of_ble_eq_true rfl) (.inr rfl) (jx_isCorner hK hi) (by omega) ?_ rfl
  rintro r1 σz (⟨rfl, hs, q4⟩ | ⟨rfl, hs, q4⟩)
  · rw [hs]
    show jw_W (js_S n) _ md_122 3 [some (.inr (.inr 13)), some (.inl i), some (.inl w), some (.inl j)] [.inl 1] σ _
    refine jw_W_if rfl (by unfold jw_rg; omega) (fun hc1 => ?_) (fun hc1 => ?_)
    · exact absurd hc1 (show ¬ ((1 : Int) = 0) by omega)
    · clear hc1
      refine jw_W_n 2 (i' := 6) (ls' := [some (.inr (.inr 13)), some (.inl i), some (.inl w), some (.inl j)]) (st' := [.inl w, .inr (.inr 13)]) rfl ?_
      refine jw_W_call (as := [.inr (.inr 13), .inl w]) (rest := []) rfl rfl rfl rfl (Nat.le_of_ble_eq_true rfl) (.inr rfl) (jx_isWish hK hwr) (by omega) ?_ rfl
      rintro r1 σz (⟨rfl, hs, q5⟩ | ⟨rfl, hs, q5⟩)
      · rw [hs]
        show jw_W (js_S n) _ md_122 7 [some (.inr (.inr 13)), some (.inl i), some (.inl w), some (.inl j)] [.inl 1] σ _
        refine jw_W_if rfl (by unfold jw_rg; omega) (fun hc2 => ?_) (fun hc2 => ?_)
        · exact absurd hc2 (show ¬ ((1 : Int) = 0) by omega)
        · clear hc2
          refine jw_W_n 2 (i' := 10) (ls' := [some (.inr (.inr 13)), some (.inl i), some (.inl w), some (.inl j)]) (st' := [.inl j, .inr (.inr 13)]) rfl ?_
          refine jw_W_call (as := [.inr (.inr 13), .inl j]) (rest := []) rfl rfl rfl rfl (Nat.le_of_ble_eq_true rfl) (.inr rfl) (jx_isPart hK hj) (by omega) ?_ rfl
          rintro r1 σz (⟨rfl, hs, q6⟩ | ⟨rfl, hs, q6⟩)
          · rw [hs]
            show jw_W (js_S n) _ md_122 11 [some (.inr (.inr 13)), some (.inl i), some (.inl w), some (.inl j)] [.inl 1] σ _
            refine jw_W_if rfl (by unfold jw_rg; omega) (fun hc3 => ?_) (fun hc3 => ?_)
            · clear hc3
              refine jw_W_n 2 (i' := 16) (ls' := [some (.inr (.inr 13)), some (.inl i), some (.inl w), some (.inl j)]) (st' := [.inr (.inr 13), .inr (.inr 13)]) rfl ?_
              refine jw_W_gf rfl rfl rfl ?_
              show jw_W (js_S n) _ md_122 17 [some (.inr (.inr 13)), some (.inl i), some (.inl w), some (.inl j)] [.inr (.inr 57), .inr (.inr 13)] σ _
              refine jw_W_gf rfl rfl rfl ?_
              show jw_W (js_S n) _ md_122 18 [some (.inr (.inr 13)), some (.inl i), some (.inl w), some (.inl j)] [.inr (.inr 58), .inr (.inr 13)] σ _
              refine jw_W_n 2 (i' := 20) (ls' := [some (.inr (.inr 13)), some (.inl i), some (.inl w), some (.inl j)]) (st' := [.inr (.inr 13), .inl i, .inr (.inr 58), .inr (.inr 13)]) rfl ?_
              refine jw_W_gf rfl rfl rfl ?_
              show jw_W (js_S n) _ md_122 21 [some (.inr (.inr 13)), some (.inl i), some (.inl w), some (.inl j)] [.inr (.inr ((σ 13 2).toNat)), .inl i, .inr (.inr 58), .inr (.inr 13)] σ _
              rw [hto]
              refine jw_W_gf rfl hp.2.1 rfl ?_
              show jw_W (js_S n) _ md_122 22 [some (.inr (.inr 13)), some (.inl i), some (.inl w), some (.inl j)] [.inr (.inr (o + 1)), .inl i, .inr (.inr 58), .inr (.inr 13)] σ _
              refine jw_W_n 3 (i' := 25) (ls' := [some (.inr (.inr 13)), some (.inl i), some (.inl w), some (.inl j)]) (st' := [.inl (3 * w), .inr (.inr (o + 1)), .inl i, .inr (.inr 58), .inr (.inr 13)]) rfl ?_
              refine jw_W_call (as := [.inr (.inr 58), .inl i, .inr (.inr (o + 1)), .inl (3 * w)]) (rest := [.inr (.inr 13)]) rfl rfl rfl rfl (Nat.le_of_ble_eq_true rfl) (.inr rfl) (jx_value (jx_pp_58 n) hp.2.2.1 (by omega) (by omega) (by omega) (by omega) (by omega)) (by omega) ?_ rfl
              rintro r1 σz ⟨rfl, hs⟩
              rw [hs, (jx_I0_c hI (by omega) (by omega)).1, (jx_I0_W hI (by omega) (by omega)).1]
              have hwf := jm_wf_bd hPm hcb (i := i) (w := w) (by omega) (by omega) (by omega) (by omega)
              have hwr2 := jx_f_bd (jx_I0_W hI (w := w) (by omega) (by omega)).2 (jx_ct_bd hcb (i := i) (by omega) (by omega))
              have hdi : σ 62 i = σ 135 i := jx_I0_d hI (by omega) (by omega)
              have hcc := jm_cc_bd (q := 0) hcb (i := i) (by omega) (by omega)
              have hd2 := (hcb.2 i (by omega) (by omega)).2
              have hd2 : σ 135 i ≤ 162 := hd2
              show jw_W (js_S n) _ md_122 26 [some (.inr (.inr 13)), some (.inl i), some (.inl w), some (.inl j)] [.inl (ge_f (jm_W σ w) (jm_ct σ i)), .inr (.inr 13)] σ _
              refine jw_W_i2l rfl (by unfold jw_rg; omega) ?_
              refine jw_W_n 1 (i' := 28) (ls' := [some (.inr (.inr 13)), some (.inl i), some (.inl w), some (.inl j)]) (st' := [.inr (.inr 13), .inr (.inl (ge_f (jm_W σ w) (jm_ct σ i))), .inr (.inr 13)]) rfl ?_
              refine jw_W_gf rfl rfl rfl ?_
              show jw_W (js_S n) _ md_122 29 [some (.inr (.inr 13)), some (.inl i), some (.inl w), some (.inl j)] [.inr (.inr 57), .inr (.inl (ge_f (jm_W σ w) (jm_ct σ i))), .inr (.inr 13)] σ _
              refine jw_W_gf rfl rfl rfl ?_
              show jw_W (js_S n) _ md_122 30 [some (.inr (.inr 13)), some (.inl i), some (.inl w), some (.inl j)] [.inr (.inr 58), .inr (.inl (ge_f (jm_W σ w) (jm_ct σ i))), .inr (.inr 13)] σ _
              refine jw_W_gf rfl rfl rfl ?_
              show jw_W (js_S n) _ md_122 31 [some (.inr (.inr 13)), some (.inl i), some (.inl w), some (.inl j)] [.inr (.inr 62), .inr (.inl (ge_f (jm_W σ w) (jm_ct σ i))), .inr (.inr 13)] σ _
              refine jw_W_n 1 (i' := 32) (ls' := [some (.inr (.inr 13)), some (.inl i), some (.inl w), some (.inl j)]) (st' := [.inl i, .inr (.inr 62), .inr (.inl (ge_f (jm_W σ w) (jm_ct σ i))), .inr (.inr 13)]) rfl ?_
              refine jw_W_ia rfl rfl (by omega) (by omega) (by omega) ?_
              show jw_W (js_S n) _ md_122 33 [some (.inr (.inr 13)), some (.inl i), some (.inl w), some (.inl j)] [.inl (σ 62 i), .inr (.inl (ge_f (jm_W σ w) (jm_ct σ i))), .inr (.inr 13)] σ _
              refine jw_W_i2l rfl (by unfold jw_rg; omega) ?_
              refine jw_W_n 1 (i' := 35) (ls' := [some (.inr (.inr 13)), some (.inl i), some (.inl w), some (.inl j)]) (st' := [.inl j, .inr (.inl (σ 62 i)), .inr (.inl (ge_f (jm_W σ w) (jm_ct σ i))), .inr (.inr 13)]) rfl ?_
              rw [hdi]
              refine jw_W_call (as := [.inr (.inr 13), .inr (.inl (ge_f (jm_W σ w) (jm_ct σ i))), .inr (.inl (σ 135 i)), .inl j]) (rest := []) rfl rfl rfl rfl (Nat.le_of_ble_eq_true rfl) (.inr rfl) (jx_partK hwf hcc.2 (by unfold jw_rg; omega)) (by omega) ?_ rfl
              rintro r1 σz ⟨rfl, hs⟩
              rw [hs]
              show jw_W (js_S n) _ md_122 36 [some (.inr (.inr 13)), some (.inl i), some (.inl w), some (.inl j)] [.inr (.inl (jm_of (ge_f (jm_W σ w) (jm_ct σ i)) (σ 135 i) j))] ((jx_fs σ 98 (jx_fr (ge_f (jm_W σ w) (jm_ct σ i)) (σ 135 i)))) _
              refine jw_W_lr rfl ?_
              refine ⟨?_, jx_fy_fs (jx_fy_rf _) (by omega)⟩
              unfold jm_waf
              first | rw [if_pos (by omega)] | rw [if_neg (by omega), if_pos (by omega)] | rw [if_neg (by omega), if_neg (by omega)] | rw [if_neg (by omega)]
            · exact absurd hc3 (show ¬ ¬ ((1 : Int) ≠ 0) by omega)
          · rw [hs]
            show jw_W (js_S n) _ md_122 11 [some (.inr (.inr 13)), some (.inl i), some (.inl w), some (.inl j)] [.inl 0] σ _
            refine jw_W_if rfl (by unfold jw_rg; omega) (fun hc4 => ?_) (fun hc4 => ?_)
            · exact absurd hc4 (show ¬ ((0 : Int) ≠ 0) by omega)
            · clear hc4
              refine jw_W_ld2 (z := (-100000000)) rfl rfl ?_
              refine jw_W_lr rfl ?_
              refine ⟨?_, jx_fy_rf _⟩
              unfold jm_waf
              first | rw [if_pos (by omega)] | rw [if_neg (by omega), if_pos (by omega)] | rw [if_neg (by omega), if_neg (by omega)] | rw [if_neg (by omega)]
      · rw [hs]
        show jw_W (js_S n) _ md_122 7 [some (.inr (.inr 13)), some (.inl i), some (.inl w), some (.inl j)] [.inl 0] σ _
        refine jw_W_if rfl (by unfold jw_rg; omega) (fun hc5 => ?_) (fun hc5 => ?_)
        · clear hc5
          refine jw_W_ld2 (z := (-100000000)) rfl rfl ?_
          refine jw_W_lr rfl ?_
          refine ⟨?_, jx_fy_rf _⟩
          unfold jm_waf
          first | rw [if_pos (by omega)] | rw [if_neg (by omega), if_pos (by omega)] | rw [if_neg (by omega), if_neg (by omega)] | rw [if_neg (by omega)]
        · exact absurd hc5 (show ¬ ¬ ((0 : Int) = 0) by omega)
  · rw [hs]
    show jw_W (js_S n) _ md_122 3 [some (.inr (.inr 13)), some (.inl i), some (.inl w), some (.inl j)] [.inl 0] σ _
    refine jw_W_if rfl (by unfold jw_rg; omega) (fun hc6 => ?_) (fun hc6 => ?_)
    · clear hc6
      refine jw_W_ld2 (z := (-100000000)) rfl rfl ?_
      refine jw_W_lr rfl ?_
      refine ⟨?_, jx_fy_rf _⟩
      unfold jm_waf
      first | rw [if_pos (by omega)] | rw [if_neg (by omega), if_pos (by omega)] | rw [if_neg (by omega), if_neg (by omega)] | rw [if_neg (by omega)]
    · exact absurd hc6 (show ¬ ¬ ((0 : Int) = 0) by omega)

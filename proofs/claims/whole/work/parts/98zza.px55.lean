/-! ===== shadow of the class, the code ===== -/
theorem jx_ad_bd {a b u l : Int} (ha : -437400 ≤ a ∧ a ≤ 437400) (hb : 0 < b ∧ b ≤ 162) (hu : -437400 ≤ u ∧ u ≤ 437400) (hl : 0 < l ∧ l ≤ 162) : jm_bg (a * (l / (Int.gcd b l : Int)) + u * (b / (Int.gcd b l : Int))) ∧ jm_bg (b / (Int.gcd b l : Int) * l) ∧ b / (Int.gcd b l : Int) * l ≠ 0 := by
  have g0 := Int.gcd_pos_of_ne_zero_right b (b := l) (by omega)
  obtain ⟨x, ex⟩ := Int.gcd_dvd_left (a := b) (b := l)
  obtain ⟨y, ey⟩ := Int.gcd_dvd_right (a := b) (b := l)
  generalize hG : (Int.gcd b l : Int) = G at *
  have G0 : 0 < G := by omega
  have d1 : b / G = x := by rw [ex, Int.mul_ediv_cancel_left _ (by omega)]
  have d2 : l / G = y := by rw [ey, Int.mul_ediv_cancel_left _ (by omega)]
  have x0 : 0 < x := Int.lt_of_mul_lt_mul_left (a := G) (by rw [Int.mul_zero]; omega) (Int.le_of_lt G0)
  have y0 : 0 < y := Int.lt_of_mul_lt_mul_left (a := G) (by rw [Int.mul_zero]; omega) (Int.le_of_lt G0)
  have x1 : x ≤ b := by
    rw [ex]
    have := Int.mul_le_mul_of_nonneg_right (show 1 ≤ G by omega) (Int.le_of_lt x0)
    omega
  have y1 : y ≤ l := by
    rw [ey]
    have := Int.mul_le_mul_of_nonneg_right (show 1 ≤ G by omega) (Int.le_of_lt y0)
    omega
  rw [d1, d2]
  have m1 := jx_mfw (x := a) (y := y) ha (by omega)
  have m2 := jx_mfw (x := u) (y := x) hu (by omega)
  have m3 := jx_mfw (x := x) (y := l) (by omega) hl
  have m4 := Int.mul_pos x0 hl.1
  unfold jm_bg
  omega
theorem jx_fr_le {u l : Int} (h : 0 < l) : (jx_fr u l).2 ≤ l := by
  obtain ⟨g, g0, e1, e2⟩ := jx_fr_gl (u := u) h
  have hp := jx_fr_pos (u := u) (l := l) (by omega)
  have := Int.mul_le_mul_of_nonneg_left (show 1 ≤ g by omega) (Int.le_of_lt hp)
  omega
theorem jx_shadow {n : Nat} {σ : jw_H} {o : Nat} {C : List (ge_R × Int)} (hK : jx_K n o C σ) {k a b2 c t : Int} (hk : jw_rg k) (ra : jw_rg a) (rb : jw_rg b2) (rc : jw_rg c) (ht : jw_rg t) : jw_T (js_S n) 8 142 [.inr (.inr 13), .inl k, .inl a, .inl b2, .inl c, .inl t] σ (fun r σ' => ∃ v, r = some (.inr (.inl v)) ∧ jx_fy σ σ' ∧ jm_shd σ (-99999999) k a b2 c t v) := by
  refine jw_T_of (D := 7) (M := mm_142) rfl (Nat.le_of_ble_eq_true rfl) (ls0 := [some (.inr (.inr 13)), some (.inl k), some (.inl a), some (.inl b2), some (.inl c), some (.inl t), none, none]) rfl ?_ (by rintro _ _ ⟨_, rfl, -⟩; rfl)
  have hI := hK.1
  obtain ⟨hto, hfo, hp, hP, e0, e1, e2, hPm, hcb, c0, p0, -⟩ := jx_I0_x hI
  have ho := hp.1
  have hq := hP.1
  have hw := hP.2.1
  have hq2 := hP.2.2.1
  have hcn := hcb.1
  have rhk := hk
  unfold jw_rg at rhk
  have rht := ht
  unfold jw_rg at rht
  refine jw_W_n 1 (i' := 1) (ls' := [some (.inr (.inr 13)), some (.inl k), some (.inl a), some (.inl b2), some (.inl c), some (.inl t), none, none]) (st' := [.inl k]) rfl ?_
  refine jw_W_if rfl (by unfold jw_rg; omega) (fun hc1 => ?_) (fun hc1 => ?_)
  · have hc1 : k < 0 := hc1
    refine jw_W_ld2 (z := (-100000000)) rfl rfl ?_
    refine jw_W_lr rfl ?_
    exact ⟨_, rfl, jx_fy_rf σ, .inl ⟨rfl, fun hh => by obtain ⟨g1, g2, g3, g4⟩ := hh; first | omega | (exact absurd g2 (by assumption))⟩⟩
  · have hc1 : ¬ (k < 0) := hc1
    refine jw_W_n 2 (i' := 4) (ls' := [some (.inr (.inr 13)), some (.inl k), some (.inl a), some (.inl b2), some (.inl c), some (.inl t), none, none]) (st' := [.inr (.inr 13), .inl k]) rfl ?_
    refine jw_W_gf rfl rfl rfl ?_
    show jw_W (js_S n) _ md_142 5 [some (.inr (.inr 13)), some (.inl k), some (.inl a), some (.inl b2), some (.inl c), some (.inl t), none, none] [.inr (.inr ((σ 13 2).toNat)), .inl k] σ _
    rw [hto]
    refine jw_W_gf rfl hp.2.1 rfl ?_
    show jw_W (js_S n) _ md_142 6 [some (.inr (.inr 13)), some (.inl k), some (.inl a), some (.inl b2), some (.inl c), some (.inl t), none, none] [.inl (σ o 2), .inl k] σ _
    refine jw_W_ic rfl (by unfold jw_rg; omega) (by unfold jw_rg; omega) (fun hc2 => ?_) (fun hc2 => ?_)
    · have hc2 : k ≥ (σ o 2) := hc2
      refine jw_W_ld2 (z := (-100000000)) rfl rfl ?_
      refine jw_W_lr rfl ?_
      exact ⟨_, rfl, jx_fy_rf σ, .inl ⟨rfl, fun hh => by obtain ⟨g1, g2, g3, g4⟩ := hh; first | omega | (exact absurd g2 (by assumption))⟩⟩
    · have hc2 : ¬ (k ≥ (σ o 2)) := hc2
      refine jw_W_n 4 (i' := 11) (ls' := [some (.inr (.inr 13)), some (.inl k), some (.inl a), some (.inl b2), some (.inl c), some (.inl t), none, none]) (st' := [.inl c, .inl b2, .inl a, .inr (.inr 13)]) rfl ?_
      refine jw_W_call (as := [.inr (.inr 13), .inl a, .inl b2, .inl c]) (rest := []) rfl rfl rfl rfl (Nat.le_of_ble_eq_true rfl) (.inr rfl) (jx_areWeights hK ra rb rc) (by omega) ?_ rfl
      rintro r1 σz (⟨rfl, hs, q1⟩ | ⟨rfl, hs, q1⟩)
      · rw [hs]
        show jw_W (js_S n) _ md_142 12 [some (.inr (.inr 13)), some (.inl k), some (.inl a), some (.inl b2), some (.inl c), some (.inl t), none, none] [.inl 1] σ _
        refine jw_W_if rfl (by unfold jw_rg; omega) (fun hc3 => ?_) (fun hc3 => ?_)
        · exact absurd hc3 (show ¬ ((1 : Int) = 0) by omega)
        · clear hc3
          refine jw_W_n 2 (i' := 15) (ls' := [some (.inr (.inr 13)), some (.inl k), some (.inl a), some (.inl b2), some (.inl c), some (.inl t), none, none]) (st' := [.inl t, .inr (.inr 13)]) rfl ?_
          refine jw_W_call (as := [.inr (.inr 13), .inl t]) (rest := []) rfl rfl rfl rfl (Nat.le_of_ble_eq_true rfl) (.inr rfl) (jx_isPart hK ht) (by omega) ?_ rfl
          rintro r1 σz (⟨rfl, hs, q2⟩ | ⟨rfl, hs, q2⟩)
          · rw [hs]
            show jw_W (js_S n) _ md_142 16 [some (.inr (.inr 13)), some (.inl k), some (.inl a), some (.inl b2), some (.inl c), some (.inl t), none, none] [.inl 1] σ _
            refine jw_W_if rfl (by unfold jw_rg; omega) (fun hc4 => ?_) (fun hc4 => ?_)
            · exact absurd hc4 (show ¬ ((1 : Int) = 0) by omega)
            · clear hc4
              refine jw_W_n 1 (i' := 18) (ls' := [some (.inr (.inr 13)), some (.inl k), some (.inl a), some (.inl b2), some (.inl c), some (.inl t), none, none]) (st' := [.inr (.inr 13)]) rfl ?_
              refine jw_W_gf rfl rfl rfl ?_
              show jw_W (js_S n) _ md_142 19 [some (.inr (.inr 13)), some (.inl k), some (.inl a), some (.inl b2), some (.inl c), some (.inl t), none, none] [.inr (.inr 57)] σ _
              refine jw_W_gf rfl rfl rfl ?_
              show jw_W (js_S n) _ md_142 20 [some (.inr (.inr 13)), some (.inl k), some (.inl a), some (.inl b2), some (.inl c), some (.inl t), none, none] [.inl (σ 57 0)] σ _
              refine jw_W_if rfl (by unfold jw_rg; omega) (fun hc5 => ?_) (fun hc5 => ?_)
              · have hc5 : (σ 57 0) ≠ 0 := hc5
                refine jw_W_n 4 (i' := 27) (ls' := [some (.inr (.inr 13)), some (.inl k), some (.inl a), some (.inl b2), some (.inl c), some (.inl t), none, none]) (st' := [.inl c, .inl b2, .inl a, .inr (.inr 13)]) rfl ?_
                refine jw_W_call (as := [.inr (.inr 13), .inl a, .inl b2, .inl c]) (rest := []) rfl rfl rfl rfl (Nat.le_of_ble_eq_true rfl) (.inr rfl) (jx_aim hK (by assumption)) (by omega) ?_ rfl
                rintro r1 σ1 ⟨rfl, hgl⟩
                have hf1 := jx_gl_y hgl
                have hK1 := jx_K_y hf1 hK
                have hI1 := hK1.1
                have hto1 : (σ1 13 2).toNat = o := (jx_I0_x hI1).1
                have hKN1 := hK1.2.1
                have hme1 := jx_fx_me (jx_fy_x hf1)
                have hwk : jm_wok a b2 c := by assumption
                have hGb := jm_gd3_Gb hPm hwk
                have eG : jx_G σ1 100 0 = jm_gd3 σ a b2 c := jx_gl_G hgl
                have e103 := hme1 103 (by omega)
                have e56 : σ1 103 56 = σ 103 56 := by rw [e103]
                have e5 : σ1 103 5 = σ 103 5 := by rw [e103]
                have e3 : σ1 103 3 = σ 103 3 := by rw [e103]
                show jw_W (js_S n) _ md_142 28 [some (.inr (.inr 13)), some (.inl k), some (.inl a), some (.inl b2), some (.inl c), some (.inl t), none, none] [] σ1 _
                refine jw_W_n 1 (i' := 29) (ls' := [some (.inr (.inr 13)), some (.inl k), some (.inl a), some (.inl b2), some (.inl c), some (.inl t), none, none]) (st' := [.inr (.inr 13)]) rfl ?_
                refine jw_W_gf rfl rfl rfl ?_
                show jw_W (js_S n) _ md_142 30 [some (.inr (.inr 13)), some (.inl k), some (.inl a), some (.inl b2), some (.inl c), some (.inl t), none, none] [.inr (.inr 57)] σ1 _
                refine jw_W_gf rfl rfl rfl ?_
                show jw_W (js_S n) _ md_142 31 [some (.inr (.inr 13)), some (.inl k), some (.inl a), some (.inl b2), some (.inl c), some (.inl t), none, none] [.inr (.inr 58)] σ1 _
                refine jw_W_n 1 (i' := 32) (ls' := [some (.inr (.inr 13)), some (.inl k), some (.inl a), some (.inl b2), some (.inl c), some (.inl t), none, none]) (st' := [.inr (.inr 13), .inr (.inr 58)]) rfl ?_
                refine jw_W_gf rfl rfl rfl ?_
                show jw_W (js_S n) _ md_142 33 [some (.inr (.inr 13)), some (.inl k), some (.inl a), some (.inl b2), some (.inl c), some (.inl t), none, none] [.inr (.inr 100), .inr (.inr 58)] σ1 _
                refine jw_W_n 1 (i' := 34) (ls' := [some (.inr (.inr 13)), some (.inl k), some (.inl a), some (.inl b2), some (.inl c), some (.inl t), none, none]) (st' := [.inl 0, .inr (.inr 100), .inr (.inr 58)]) rfl ?_
                refine jw_W_call (as := [.inr (.inr 58), .inr (.inr 100), .inl 0]) (rest := []) rfl rfl rfl rfl (Nat.le_of_ble_eq_true rfl) (.inr rfl) (jx_firstWithMost (a := 100) (len := 3) (f := 0) (jx_pp_58 n) rfl (by omega) (by omega) (by omega) (by rw [eG]; exact hGb) (jx_I0_pb hI1)) (by omega) ?_ rfl
                rintro r1 σz ⟨i, rfl, hs, hfb⟩
                rw [hs]
                rw [eG, show σ1 58 0 = σ1 103 56 from (jx_I0_x hI1).2.2.2.2.2.2.2.2.2.2.1, e56] at hfb
                have hb := jx_fst_cg (P' := jm_ct σ) (fun i i0 i1 => by rw [(jx_I0_c hI1 i0 (by omega)).1]; exact jx_me_ct hme1 i) hfb
                have hi1 := jx_fst_in (by omega) hb
                show jw_W (js_S n) _ md_142 35 [some (.inr (.inr 13)), some (.inl k), some (.inl a), some (.inl b2), some (.inl c), some (.inl t), none, none] [.inl i] σ1 _
                refine jw_W_n 2 (i' := 37) (ls' := [some (.inr (.inr 13)), some (.inl k), some (.inl a), some (.inl b2), some (.inl c), some (.inl t), some (.inl i), none]) (st' := [.inr (.inr 13)]) rfl ?_
                refine jw_W_gf rfl rfl rfl ?_
                show jw_W (js_S n) _ md_142 38 [some (.inr (.inr 13)), some (.inl k), some (.inl a), some (.inl b2), some (.inl c), some (.inl t), some (.inl i), none] [.inr (.inr 47)] σ1 _
                refine jw_W_n 1 (i' := 39) (ls' := [some (.inr (.inr 13)), some (.inl k), some (.inl a), some (.inl b2), some (.inl c), some (.inl t), some (.inl i), none]) (st' := [.inr (.inr 13), .inr (.inr 47)]) rfl ?_
                refine jw_W_gf rfl rfl rfl ?_
                show jw_W (js_S n) _ md_142 40 [some (.inr (.inr 13)), some (.inl k), some (.inl a), some (.inl b2), some (.inl c), some (.inl t), some (.inl i), none] [.inr (.inr ((σ1 13 2).toNat)), .inr (.inr 47)] σ1 _
                rw [hto1]
                refine jw_W_n 2 (i' := 42) (ls' := [some (.inr (.inr 13)), some (.inl k), some (.inl a), some (.inl b2), some (.inl c), some (.inl t), some (.inl i), none]) (st' := [.inl k, .inl ((-1)), .inr (.inr o), .inr (.inr 47)]) rfl ?_
                refine jw_W_call (as := [.inr (.inr 47), .inr (.inr o), .inl ((-1)), .inl k]) (rest := []) rfl rfl rfl rfl (Nat.le_of_ble_eq_true rfl) (.inr rfl) (jx_fillK hK1 (by unfold jw_rg; omega) (by unfold jw_rg; omega)) (by omega) ?_ rfl
                rintro r1 σ2 ⟨rfl, H2⟩
                rw [← List.append_nil (jx_fL σ1 (-1) k (σ1 103 5 + 2 * σ1 103 3).toNat ++ jx_nx (σ1 103 3))] at H2
                show jw_W (js_S n) _ md_142 43 [some (.inr (.inr 13)), some (.inl k), some (.inl a), some (.inl b2), some (.inl c), some (.inl t), some (.inl i), none] [] σ2 _
                refine jw_W_n 1 (i' := 44) (ls' := [some (.inr (.inr 13)), some (.inl k), some (.inl a), some (.inl b2), some (.inl c), some (.inl t), some (.inl i), none]) (st' := [.inr (.inr 13)]) rfl ?_
                refine jw_W_gf rfl rfl rfl ?_
                show jw_W (js_S n) _ md_142 45 [some (.inr (.inr 13)), some (.inl k), some (.inl a), some (.inl b2), some (.inl c), some (.inl t), some (.inl i), none] [.inr (.inr 47)] σ2 _
                refine jw_W_call (as := [.inr (.inr 47)]) (rest := []) rfl rfl rfl rfl (Nat.le_of_ble_eq_true rfl) (.inr rfl) (jx_findK hKN1 (wo := -1) (ra := k) (E := []) (by omega) (by omega) (fun r hr => by cases hr) (by simp) H2) (by omega) ?_ rfl
                rintro r1 σ3 ⟨rfl, hq3, P, p1, p2, p3, p4, p5⟩
                have hf3 := jx_fy_tr hf1 (jx_fy_q hq3)
                have hK3 := jx_K_y hf3 hK
                have hI3 := hK3.1
                have hme3 := jx_fx_me (jx_fy_x hf3)
                have eG3 : jx_G σ3 100 0 = jm_gd3 σ a b2 c := by rw [← eG]; unfold jx_G; rw [hq3 100 (by omega)]
                have eR : jm_RR (σ1 103 3) (jm_bk σ1 (-1) k (σ1 103 5).toNat) = jm_shR σ k := by unfold jm_shR; rw [e3, e5, jx_pq_bk (jx_me_pq hme1) (by omega) (-1) k _ (by omega)]
                rw [List.nil_append, eR] at p5
                have hpb : jx_pb σ3 48 := ⟨by have := p1.1; omega, fun i i0 i1 => by have hg := List.getElem?_eq_getElem (l := P) (i := i.toNat) (by have := p1.1; omega); have e := p1.2 _ _ hg; rw [Int.toNat_of_nonneg i0] at e; rw [e]; exact p4 _ (List.getElem_mem _)⟩
                show jw_W (js_S n) _ md_142 46 [some (.inr (.inr 13)), some (.inl k), some (.inl a), some (.inl b2), some (.inl c), some (.inl t), some (.inl i), none] [] σ3 _
                refine jw_W_n 1 (i' := 47) (ls' := [some (.inr (.inr 13)), some (.inl k), some (.inl a), some (.inl b2), some (.inl c), some (.inl t), some (.inl i), none]) (st' := [.inr (.inr 13)]) rfl ?_
                refine jw_W_gf rfl rfl rfl ?_
                show jw_W (js_S n) _ md_142 48 [some (.inr (.inr 13)), some (.inl k), some (.inl a), some (.inl b2), some (.inl c), some (.inl t), some (.inl i), none] [.inr (.inr 47)] σ3 _
                refine jw_W_gf rfl rfl rfl ?_
                show jw_W (js_S n) _ md_142 49 [some (.inr (.inr 13)), some (.inl k), some (.inl a), some (.inl b2), some (.inl c), some (.inl t), some (.inl i), none] [.inr (.inr 48)] σ3 _
                refine jw_W_n 1 (i' := 50) (ls' := [some (.inr (.inr 13)), some (.inl k), some (.inl a), some (.inl b2), some (.inl c), some (.inl t), some (.inl i), none]) (st' := [.inr (.inr 13), .inr (.inr 48)]) rfl ?_
                refine jw_W_gf rfl rfl rfl ?_
                show jw_W (js_S n) _ md_142 51 [some (.inr (.inr 13)), some (.inl k), some (.inl a), some (.inl b2), some (.inl c), some (.inl t), some (.inl i), none] [.inr (.inr 100), .inr (.inr 48)] σ3 _
                refine jw_W_n 1 (i' := 52) (ls' := [some (.inr (.inr 13)), some (.inl k), some (.inl a), some (.inl b2), some (.inl c), some (.inl t), some (.inl i), none]) (st' := [.inl 0, .inr (.inr 100), .inr (.inr 48)]) rfl ?_
                refine jw_W_call (as := [.inr (.inr 48), .inr (.inr 100), .inl 0]) (rest := []) rfl rfl rfl rfl (Nat.le_of_ble_eq_true rfl) (.inr rfl) (jx_firstWithMost (a := 100) (len := 3) (f := 0) (jx_pp_48 n) rfl (by omega) (by omega) (by omega) (by rw [eG3]; exact hGb) hpb) (by omega) ?_ rfl
                rintro r1 σz ⟨j, rfl, hs, hfj⟩
                rw [hs]
                rw [eG3, p1.1] at hfj
                have hj64 : j = -1 ∧ P.length = 0 ∨ (0 ≤ j ∧ j < (P.length : Int)) := by rcases hfj with hh | hh; exact .inl ⟨hh.2, by omega⟩; exact .inr hh.1
                show jw_W (js_S n) _ md_142 53 [some (.inr (.inr 13)), some (.inl k), some (.inl a), some (.inl b2), some (.inl c), some (.inl t), some (.inl i), none] [.inl j] σ3 _
                refine jw_W_n 2 (i' := 55) (ls' := [some (.inr (.inr 13)), some (.inl k), some (.inl a), some (.inl b2), some (.inl c), some (.inl t), some (.inl i), some (.inl j)]) (st' := [.inl i]) rfl ?_
                refine jw_W_if rfl (by unfold jw_rg; omega) (fun hc6 => ?_) (fun hc6 => ?_)
                · have hc6 : i < 0 := hc6
                  refine jw_W_ld2 (z := (-99999999)) rfl rfl ?_
                  refine jw_W_lr rfl ?_
                  first
                    | omega
                    | exact ⟨_, rfl, hf3, .inr ⟨⟨by omega, hwk, by omega, by omega⟩, .inl ⟨rfl, fun ⟨y, hy⟩ => by
                        obtain ⟨a1, a2, a3⟩ := ge_pp_ok hy.1.1
                        have hz := (p5 (ge_pp y)).mpr ⟨ge_e_V (ge_e_sym a1) hy.1.1 a3 hy, a2⟩
                        have := List.length_pos_of_mem hz
                        omega⟩⟩⟩
                · have hc6 : ¬ (i < 0) := hc6
                  refine jw_W_n 1 (i' := 57) (ls' := [some (.inr (.inr 13)), some (.inl k), some (.inl a), some (.inl b2), some (.inl c), some (.inl t), some (.inl i), some (.inl j)]) (st' := [.inl j]) rfl ?_
                  refine jw_W_if rfl (by unfold jw_rg; omega) (fun hc7 => ?_) (fun hc7 => ?_)
                  · have hc7 : j ≥ 0 := hc7
                    refine jw_W_n 1 (i' := 61) (ls' := [some (.inr (.inr 13)), some (.inl k), some (.inl a), some (.inl b2), some (.inl c), some (.inl t), some (.inl i), some (.inl j)]) (st' := [.inr (.inr 13)]) rfl ?_
                    refine jw_W_gf rfl rfl rfl ?_
                    show jw_W (js_S n) _ md_142 62 [some (.inr (.inr 13)), some (.inl k), some (.inl a), some (.inl b2), some (.inl c), some (.inl t), some (.inl i), some (.inl j)] [.inr (.inr 98)] σ3 _
                    refine jw_W_n 1 (i' := 63) (ls' := [some (.inr (.inr 13)), some (.inl k), some (.inl a), some (.inl b2), some (.inl c), some (.inl t), some (.inl i), some (.inl j)]) (st' := [.inr (.inr 13), .inr (.inr 98)]) rfl ?_
                    refine jw_W_gf rfl rfl rfl ?_
                    show jw_W (js_S n) _ md_142 64 [some (.inr (.inr 13)), some (.inl k), some (.inl a), some (.inl b2), some (.inl c), some (.inl t), some (.inl i), some (.inl j)] [.inr (.inr 47), .inr (.inr 98)] σ3 _
                    refine jw_W_gf rfl rfl rfl ?_
                    show jw_W (js_S n) _ md_142 65 [some (.inr (.inr 13)), some (.inl k), some (.inl a), some (.inl b2), some (.inl c), some (.inl t), some (.inl i), some (.inl j)] [.inr (.inr 48), .inr (.inr 98)] σ3 _
                    refine jw_W_n 2 (i' := 67) (ls' := [some (.inr (.inr 13)), some (.inl k), some (.inl a), some (.inl b2), some (.inl c), some (.inl t), some (.inl i), some (.inl j)]) (st' := [.inr (.inr 13), .inl j, .inr (.inr 48), .inr (.inr 98)]) rfl ?_
                    refine jw_W_gf rfl rfl rfl ?_
                    show jw_W (js_S n) _ md_142 68 [some (.inr (.inr 13)), some (.inl k), some (.inl a), some (.inl b2), some (.inl c), some (.inl t), some (.inl i), some (.inl j)] [.inr (.inr 100), .inl j, .inr (.inr 48), .inr (.inr 98)] σ3 _
                    refine jw_W_n 1 (i' := 69) (ls' := [some (.inr (.inr 13)), some (.inl k), some (.inl a), some (.inl b2), some (.inl c), some (.inl t), some (.inl i), some (.inl j)]) (st' := [.inl 0, .inr (.inr 100), .inl j, .inr (.inr 48), .inr (.inr 98)]) rfl ?_
                    refine jw_W_call (as := [.inr (.inr 48), .inl j, .inr (.inr 100), .inl 0]) (rest := [.inr (.inr 98)]) rfl rfl rfl rfl (Nat.le_of_ble_eq_true rfl) (.inr rfl) (jx_value (a := 100) (len := 3) (f := 0) (jx_pp_48 n) rfl (by omega) (by omega) (by omega) (i := j) (by omega) (by omega)) (by omega) ?_ rfl
                    rintro r1 σz ⟨rfl, hs⟩
                    rw [hs, eG3]
                    have hP0 : 0 < P.length := by omega
                    have hmx := jx_mx_P (Pf := jx_pt σ3 48) p1.2 p4 p5 hfj hP0
                    have fj := jx_f_bd hGb hmx.2.1
                    have wj : 0 < σ3 52 j ∧ σ3 52 j ≤ 162 := hmx.2.1.2.2.2
                    have frb := jx_fr_bd (u := ge_f (jm_gd3 σ a b2 c) (jx_pt σ3 48 j)) (l := σ3 52 j) (B := 437400) wj.1 (by omega) fj
                    have frl := jx_fr_le (u := ge_f (jm_gd3 σ a b2 c) (jx_pt σ3 48 j)) (l := σ3 52 j) wj.1
                    show jw_W (js_S n) _ md_142 70 [some (.inr (.inr 13)), some (.inl k), some (.inl a), some (.inl b2), some (.inl c), some (.inl t), some (.inl i), some (.inl j)] [.inl (ge_f (jm_gd3 σ a b2 c) (jx_pt σ3 48 j)), .inr (.inr 98)] σ3 _
                    refine jw_W_i2l rfl (by unfold jw_rg; omega) ?_
                    refine jw_W_n 1 (i' := 72) (ls' := [some (.inr (.inr 13)), some (.inl k), some (.inl a), some (.inl b2), some (.inl c), some (.inl t), some (.inl i), some (.inl j)]) (st' := [.inr (.inr 13), .inr (.inl (ge_f (jm_gd3 σ a b2 c) (jx_pt σ3 48 j))), .inr (.inr 98)]) rfl ?_
                    refine jw_W_gf rfl rfl rfl ?_
                    show jw_W (js_S n) _ md_142 73 [some (.inr (.inr 13)), some (.inl k), some (.inl a), some (.inl b2), some (.inl c), some (.inl t), some (.inl i), some (.inl j)] [.inr (.inr 47), .inr (.inl (ge_f (jm_gd3 σ a b2 c) (jx_pt σ3 48 j))), .inr (.inr 98)] σ3 _
                    refine jw_W_gf rfl rfl rfl ?_
                    show jw_W (js_S n) _ md_142 74 [some (.inr (.inr 13)), some (.inl k), some (.inl a), some (.inl b2), some (.inl c), some (.inl t), some (.inl i), some (.inl j)] [.inr (.inr 48), .inr (.inl (ge_f (jm_gd3 σ a b2 c) (jx_pt σ3 48 j))), .inr (.inr 98)] σ3 _
                    refine jw_W_gf rfl rfl rfl ?_
                    show jw_W (js_S n) _ md_142 75 [some (.inr (.inr 13)), some (.inl k), some (.inl a), some (.inl b2), some (.inl c), some (.inl t), some (.inl i), some (.inl j)] [.inr (.inr 52), .inr (.inl (ge_f (jm_gd3 σ a b2 c) (jx_pt σ3 48 j))), .inr (.inr 98)] σ3 _
                    refine jw_W_n 1 (i' := 76) (ls' := [some (.inr (.inr 13)), some (.inl k), some (.inl a), some (.inl b2), some (.inl c), some (.inl t), some (.inl i), some (.inl j)]) (st' := [.inl j, .inr (.inr 52), .inr (.inl (ge_f (jm_gd3 σ a b2 c) (jx_pt σ3 48 j))), .inr (.inr 98)]) rfl ?_
                    refine jw_W_ia rfl rfl (by omega) (by omega) (by omega) ?_
                    show jw_W (js_S n) _ md_142 77 [some (.inr (.inr 13)), some (.inl k), some (.inl a), some (.inl b2), some (.inl c), some (.inl t), some (.inl i), some (.inl j)] [.inl (σ3 52 j), .inr (.inl (ge_f (jm_gd3 σ a b2 c) (jx_pt σ3 48 j))), .inr (.inr 98)] σ3 _
                    refine jw_W_i2l rfl (by unfold jw_rg; omega) ?_
                    refine jw_W_call (as := [.inr (.inr 98), .inr (.inl (ge_f (jm_gd3 σ a b2 c) (jx_pt σ3 48 j))), .inr (.inl (σ3 52 j))]) (rest := []) rfl rfl rfl rfl (Nat.le_of_ble_eq_true rfl) (.inr rfl) (jx_set (jx_fo_98 n) (by unfold jm_bg; omega) (by unfold jm_bg; omega) (by omega)) (by omega) ?_ rfl
                    rintro r1 σ4 ⟨rfl, hs⟩
                    have hf4 : jx_fy σ σ4 := by rw [hs]; exact jx_fy_fs hf3 (by omega)
                    have hK4 := jx_K_y hf4 hK
                    have hI4 := hK4.1
                    have hme4 := jx_fx_me (jx_fy_x hf4)
                    have e4103 := hme4 103 (by omega)
                    have e456 : σ4 103 56 = σ 103 56 := by rw [e4103]
                    have eG4 : jx_G σ4 100 0 = jm_gd3 σ a b2 c := by rw [← eG3, hs]; unfold jx_G; rw [jx_fs_o _ _ (by decide)]
                    have e970 : σ4 98 0 = (jx_fr (ge_f (jm_gd3 σ a b2 c) (jx_pt σ3 48 j)) (σ3 52 j)).1 := by rw [hs]; rfl
                    have e971 : σ4 98 1 = (jx_fr (ge_f (jm_gd3 σ a b2 c) (jx_pt σ3 48 j)) (σ3 52 j)).2 := by rw [hs]; rfl
                    show jw_W (js_S n) _ md_142 79 [some (.inr (.inr 13)), some (.inl k), some (.inl a), some (.inl b2), some (.inl c), some (.inl t), some (.inl i), some (.inl j)] [] σ4 _
                    refine jw_W_n 1 (i' := 80) (ls' := [some (.inr (.inr 13)), some (.inl k), some (.inl a), some (.inl b2), some (.inl c), some (.inl t), some (.inl i), some (.inl j)]) (st' := [.inr (.inr 13)]) rfl ?_
                    refine jw_W_gf rfl rfl rfl ?_
                    show jw_W (js_S n) _ md_142 81 [some (.inr (.inr 13)), some (.inl k), some (.inl a), some (.inl b2), some (.inl c), some (.inl t), some (.inl i), some (.inl j)] [.inr (.inr 98)] σ4 _
                    refine jw_W_n 1 (i' := 82) (ls' := [some (.inr (.inr 13)), some (.inl k), some (.inl a), some (.inl b2), some (.inl c), some (.inl t), some (.inl i), some (.inl j)]) (st' := [.inr (.inr 13), .inr (.inr 98)]) rfl ?_
                    refine jw_W_gf rfl rfl rfl ?_
                    show jw_W (js_S n) _ md_142 83 [some (.inr (.inr 13)), some (.inl k), some (.inl a), some (.inl b2), some (.inl c), some (.inl t), some (.inl i), some (.inl j)] [.inr (.inr 57), .inr (.inr 98)] σ4 _
                    refine jw_W_gf rfl rfl rfl ?_
                    show jw_W (js_S n) _ md_142 84 [some (.inr (.inr 13)), some (.inl k), some (.inl a), some (.inl b2), some (.inl c), some (.inl t), some (.inl i), some (.inl j)] [.inr (.inr 58), .inr (.inr 98)] σ4 _
                    refine jw_W_n 2 (i' := 86) (ls' := [some (.inr (.inr 13)), some (.inl k), some (.inl a), some (.inl b2), some (.inl c), some (.inl t), some (.inl i), some (.inl j)]) (st' := [.inr (.inr 13), .inl i, .inr (.inr 58), .inr (.inr 98)]) rfl ?_
                    refine jw_W_gf rfl rfl rfl ?_
                    show jw_W (js_S n) _ md_142 87 [some (.inr (.inr 13)), some (.inl k), some (.inl a), some (.inl b2), some (.inl c), some (.inl t), some (.inl i), some (.inl j)] [.inr (.inr 100), .inl i, .inr (.inr 58), .inr (.inr 98)] σ4 _
                    refine jw_W_n 1 (i' := 88) (ls' := [some (.inr (.inr 13)), some (.inl k), some (.inl a), some (.inl b2), some (.inl c), some (.inl t), some (.inl i), some (.inl j)]) (st' := [.inl 0, .inr (.inr 100), .inl i, .inr (.inr 58), .inr (.inr 98)]) rfl ?_
                    refine jw_W_call (as := [.inr (.inr 58), .inl i, .inr (.inr 100), .inl 0]) (rest := [.inr (.inr 98)]) rfl rfl rfl rfl (Nat.le_of_ble_eq_true rfl) (.inr rfl) (jx_value (a := 100) (len := 3) (f := 0) (jx_pp_58 n) rfl (by omega) (by omega) (by omega) (i := i) (by omega) (by omega)) (by omega) ?_ rfl
                    rintro r1 σz ⟨rfl, hs⟩
                    rw [hs, eG4, (jx_I0_c hI4 hi1.1 (by omega)).1, jx_me_ct hme4]
                    have fi := jx_f_bd hGb (jx_ct_bd hcb hi1.1 hi1.2)
                    have c1 := jm_cw hcb hi1.1 hi1.2
                    have c2 : σ 135 i ≤ 162 := (hcb.2 i hi1.1 hi1.2).2
                    have e62 : σ4 62 i = σ 135 i := by rw [← hme4 135 (by omega)]; exact congrArg (fun v : ge_R => v.2.2.2) (jx_I0_c hI4 hi1.1 (by omega)).1
                    have hab := jx_ad_bd (a := σ4 98 0) (b := σ4 98 1) (u := -ge_f (jm_gd3 σ a b2 c) (jm_ct σ i)) (l := σ4 62 i) (by rw [e970]; exact frb.1) (by rw [e971]; omega) (by omega) (by omega)
                    show jw_W (js_S n) _ md_142 89 [some (.inr (.inr 13)), some (.inl k), some (.inl a), some (.inl b2), some (.inl c), some (.inl t), some (.inl i), some (.inl j)] [.inl (ge_f (jm_gd3 σ a b2 c) (jm_ct σ i)), .inr (.inr 98)] σ4 _
                    refine jw_W_n 1 (i' := 90) (ls' := [some (.inr (.inr 13)), some (.inl k), some (.inl a), some (.inl b2), some (.inl c), some (.inl t), some (.inl i), some (.inl j)]) (st' := [.inl ((-(ge_f (jm_gd3 σ a b2 c) (jm_ct σ i)))), .inr (.inr 98)]) rfl ?_
                    refine jw_W_i2l rfl (by unfold jw_rg; omega) ?_
                    refine jw_W_n 1 (i' := 92) (ls' := [some (.inr (.inr 13)), some (.inl k), some (.inl a), some (.inl b2), some (.inl c), some (.inl t), some (.inl i), some (.inl j)]) (st' := [.inr (.inr 13), .inr (.inl ((-(ge_f (jm_gd3 σ a b2 c) (jm_ct σ i))))), .inr (.inr 98)]) rfl ?_
                    refine jw_W_gf rfl rfl rfl ?_
                    show jw_W (js_S n) _ md_142 93 [some (.inr (.inr 13)), some (.inl k), some (.inl a), some (.inl b2), some (.inl c), some (.inl t), some (.inl i), some (.inl j)] [.inr (.inr 57), .inr (.inl ((-(ge_f (jm_gd3 σ a b2 c) (jm_ct σ i))))), .inr (.inr 98)] σ4 _
                    refine jw_W_gf rfl rfl rfl ?_
                    show jw_W (js_S n) _ md_142 94 [some (.inr (.inr 13)), some (.inl k), some (.inl a), some (.inl b2), some (.inl c), some (.inl t), some (.inl i), some (.inl j)] [.inr (.inr 58), .inr (.inl ((-(ge_f (jm_gd3 σ a b2 c) (jm_ct σ i))))), .inr (.inr 98)] σ4 _
                    refine jw_W_gf rfl rfl rfl ?_
                    show jw_W (js_S n) _ md_142 95 [some (.inr (.inr 13)), some (.inl k), some (.inl a), some (.inl b2), some (.inl c), some (.inl t), some (.inl i), some (.inl j)] [.inr (.inr 62), .inr (.inl ((-(ge_f (jm_gd3 σ a b2 c) (jm_ct σ i))))), .inr (.inr 98)] σ4 _
                    refine jw_W_n 1 (i' := 96) (ls' := [some (.inr (.inr 13)), some (.inl k), some (.inl a), some (.inl b2), some (.inl c), some (.inl t), some (.inl i), some (.inl j)]) (st' := [.inl i, .inr (.inr 62), .inr (.inl ((-(ge_f (jm_gd3 σ a b2 c) (jm_ct σ i))))), .inr (.inr 98)]) rfl ?_
                    refine jw_W_ia rfl rfl (by omega) (by omega) (by omega) ?_
                    show jw_W (js_S n) _ md_142 97 [some (.inr (.inr 13)), some (.inl k), some (.inl a), some (.inl b2), some (.inl c), some (.inl t), some (.inl i), some (.inl j)] [.inl (σ4 62 i), .inr (.inl ((-(ge_f (jm_gd3 σ a b2 c) (jm_ct σ i))))), .inr (.inr 98)] σ4 _
                    refine jw_W_i2l rfl (by unfold jw_rg; omega) ?_
                    refine jw_W_call (as := [.inr (.inr 98), .inr (.inl ((-(ge_f (jm_gd3 σ a b2 c) (jm_ct σ i))))), .inr (.inl (σ4 62 i))]) (rest := []) rfl rfl rfl rfl (Nat.le_of_ble_eq_true rfl) (.inr rfl) (jx_add (jx_fo_98 n) (by rw [e971]; unfold jm_bg; omega) (by unfold jm_bg; omega) (by omega) hab.1 hab.2.1 hab.2.2) (by omega) ?_ rfl
                    rintro r1 σ5 ⟨rfl, hs⟩
                    have hf5 : jx_fy σ σ5 := by rw [hs]; exact jx_fy_fs hf4 (by omega)
                    have e5v : (σ5 98 0, σ5 98 1) = jx_fr (ge_f (jm_gd3 σ a b2 c) (jx_pt σ3 48 j) * σ 135 i + -ge_f (jm_gd3 σ a b2 c) (jm_ct σ i) * σ3 52 j) (σ3 52 j * σ 135 i) := by rw [← jx_ad_fr wj.1 c1, hs, e970, e971, e62]; rfl
                    show jw_W (js_S n) _ md_142 99 [some (.inr (.inr 13)), some (.inl k), some (.inl a), some (.inl b2), some (.inl c), some (.inl t), some (.inl i), some (.inl j)] [] σ5 _
                    refine jw_W_n 1 (i' := 100) (ls' := [some (.inr (.inr 13)), some (.inl k), some (.inl a), some (.inl b2), some (.inl c), some (.inl t), some (.inl i), some (.inl j)]) (st' := [.inr (.inr 13)]) rfl ?_
                    refine jw_W_gf rfl rfl rfl ?_
                    show jw_W (js_S n) _ md_142 101 [some (.inr (.inr 13)), some (.inl k), some (.inl a), some (.inl b2), some (.inl c), some (.inl t), some (.inl i), some (.inl j)] [.inr (.inr 98)] σ5 _
                    refine jw_W_n 1 (i' := 102) (ls' := [some (.inr (.inr 13)), some (.inl k), some (.inl a), some (.inl b2), some (.inl c), some (.inl t), some (.inl i), some (.inl j)]) (st' := [.inl t, .inr (.inr 98)]) rfl ?_
                    refine jw_W_call (as := [.inr (.inr 98), .inl t]) (rest := []) rfl rfl rfl rfl (Nat.le_of_ble_eq_true rfl) (.inr rfl) (jx_part (jx_fo_98 n) (by unfold jw_rg; omega)) (by omega) ?_ rfl
                    rintro r1 σz ⟨rfl, hs⟩
                    rw [hs]
                    show jw_W (js_S n) _ md_142 103 [some (.inr (.inr 13)), some (.inl k), some (.inl a), some (.inl b2), some (.inl c), some (.inl t), some (.inl i), some (.inl j)] [.inr (.inl (if t = 0 then σ5 98 0 else σ5 98 1))] σ5 _
                    refine jw_W_lr rfl ?_
                    refine ⟨_, rfl, hf5, .inr ⟨⟨by omega, hwk, by omega, by omega⟩, .inr ⟨i, _, hb, hmx, ?_⟩⟩⟩
                    have hL : (if t = 0 then σ5 98 0 else σ5 98 1) = jm_of (ge_f (jm_gd3 σ a b2 c) (jx_pt σ3 48 j) * σ 135 i + -ge_f (jm_gd3 σ a b2 c) (jm_ct σ i) * σ3 52 j) (σ3 52 j * σ 135 i) t := by
                      rw [← jx_fr_j (Int.mul_pos wj.1 c1) (by omega), ← e5v]
                    rw [hL, Int.neg_mul, ← Int.sub_eq_add_neg]
                    rfl
                  · have hc7 : ¬ (j ≥ 0) := hc7
                    refine jw_W_ld2 (z := (-99999999)) rfl rfl ?_
                    refine jw_W_lr rfl ?_
                    first
                      | omega
                      | exact ⟨_, rfl, hf3, .inr ⟨⟨by omega, hwk, by omega, by omega⟩, .inl ⟨rfl, fun ⟨y, hy⟩ => by
                          obtain ⟨a1, a2, a3⟩ := ge_pp_ok hy.1.1
                          have hz := (p5 (ge_pp y)).mpr ⟨ge_e_V (ge_e_sym a1) hy.1.1 a3 hy, a2⟩
                          have := List.length_pos_of_mem hz
                          omega⟩⟩⟩
              · have hc5 : (σ 57 0) = 0 := Classical.not_not.mp hc5
                refine jw_W_ld2 (z := (-100000000)) rfl rfl ?_
                refine jw_W_lr rfl ?_
                exact ⟨_, rfl, jx_fy_rf σ, .inl ⟨rfl, fun hh => by obtain ⟨g1, g2, g3, g4⟩ := hh; first | omega | (exact absurd g2 (by assumption))⟩⟩
          · rw [hs]
            show jw_W (js_S n) _ md_142 16 [some (.inr (.inr 13)), some (.inl k), some (.inl a), some (.inl b2), some (.inl c), some (.inl t), none, none] [.inl 0] σ _
            refine jw_W_if rfl (by unfold jw_rg; omega) (fun hc8 => ?_) (fun hc8 => ?_)
            · clear hc8
              refine jw_W_ld2 (z := (-100000000)) rfl rfl ?_
              refine jw_W_lr rfl ?_
              exact ⟨_, rfl, jx_fy_rf σ, .inl ⟨rfl, fun hh => by obtain ⟨g1, g2, g3, g4⟩ := hh; first | omega | (exact absurd g2 (by assumption))⟩⟩
            · exact absurd hc8 (show ¬ ¬ ((0 : Int) = 0) by omega)
      · rw [hs]
        show jw_W (js_S n) _ md_142 12 [some (.inr (.inr 13)), some (.inl k), some (.inl a), some (.inl b2), some (.inl c), some (.inl t), none, none] [.inl 0] σ _
        refine jw_W_if rfl (by unfold jw_rg; omega) (fun hc9 => ?_) (fun hc9 => ?_)
        · clear hc9
          refine jw_W_ld2 (z := (-100000000)) rfl rfl ?_
          refine jw_W_lr rfl ?_
          exact ⟨_, rfl, jx_fy_rf σ, .inl ⟨rfl, fun hh => by obtain ⟨g1, g2, g3, g4⟩ := hh; first | omega | (exact absurd g2 (by assumption))⟩⟩
        · exact absurd hc9 (show ¬ ¬ ((0 : Int) = 0) by omega)

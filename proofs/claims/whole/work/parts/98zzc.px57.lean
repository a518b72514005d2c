/-! ===== ofFraction with any lower number; price: class and reference ===== -/
theorem jm_ldiv_ng {x g : Int} (hx : jm_bg x) (hg : 0 < g) (hg2 : g ≤ 9200000000000000000) (hd : g ∣ x) : jw_ldiv x (-g) = -(x / g) := by
  unfold jm_bg at hx
  rw [jm_ldiv (by unfold jw_rgl; omega) (by unfold jw_rgl; omega) (by omega), Int.tdiv_neg, Int.tdiv_eq_ediv_of_dvd hd]
theorem jm_ofFn {n : Nat} {σ : jw_H} {u l j : Int} (hu : jm_bg u) (hl : jm_bg l) (h0 : l ≠ 0) (hj : jw_rg j) : jw_T (js_S n) 2 182 [.inr (.inl u), .inr (.inl l), .inl j] σ (fun r σ' => r = some (.inr (.inl (if j = 0 then (jx_fr u l).1 else (jx_fr u l).2))) ∧ σ' = σ) := by
  refine jw_T_of (D := 1) (M := mm_182) rfl (Nat.le_of_ble_eq_true rfl) (ls0 := [some (.inr (.inl u)), none, some (.inr (.inl l)), none, some (.inl j), none, none, none, none]) rfl ?_ (by rintro _ _ ⟨rfl, -⟩; rfl)
  have g0 : 0 < (Int.gcd u l : Int) := by
    have := Int.gcd_pos_of_ne_zero_right u h0
    omega
  have hu2 := hu
  have hl2 := hl
  unfold jm_bg at hu2 hl2
  have g1 : (Int.gcd u l : Int) ≤ 9200000000000000000 := by
    have h1 := Int.gcd_dvd_right u l
    by_cases hs : 0 < l
    · have := Int.le_of_dvd hs h1
      omega
    · have := Int.le_of_dvd (show 0 < -l by omega) (Int.dvd_neg.mpr h1)
      omega
  have f1 := jm_ldiv_ex hu g0 g1 (Int.gcd_dvd_left u l)
  have f2 := jm_ldiv_ex hl g0 g1 (Int.gcd_dvd_right u l)
  have f3 := jm_ldiv_ng hu g0 g1 (Int.gcd_dvd_left u l)
  have f4 := jm_ldiv_ng hl g0 g1 (Int.gcd_dvd_right u l)
  have rhj := hj
  unfold jw_rg at rhj
  refine jw_W_n 2 (i' := 2) (ls' := [some (.inr (.inl u)), none, some (.inr (.inl l)), none, some (.inl j), none, none, none, none]) (st' := [.inr (.inl l), .inr (.inl u)]) rfl ?_
  refine jw_W_call (as := [.inr (.inl u), .inr (.inl l)]) (rest := []) rfl rfl rfl rfl (Nat.le_of_ble_eq_true rfl) (.inl rfl) (jm_gcd (by unfold jw_rgl; omega) (by omega) (by unfold jw_rgl; omega) (by omega)) (by omega) ?_ rfl
  rintro r1 σz ⟨rfl, hs⟩
  rw [hs]
  show jw_W (js_S n) _ md_182 3 [some (.inr (.inl u)), none, some (.inr (.inl l)), none, some (.inl j), none, none, none, none] [.inr (.inl ((Int.gcd u l : Int)))] σ _
  refine jw_W_n 3 (i' := 6) (ls' := [some (.inr (.inl u)), none, some (.inr (.inl l)), none, some (.inl j), some (.inr (.inl ((Int.gcd u l : Int)))), none, none, none]) (st' := [.inr (.inl 0), .inr (.inl l)]) rfl ?_
  refine jw_W_lc rfl rfl (by unfold jw_rgl; omega) (by unfold jw_rgl; omega) (fun hc1 => ?_) (fun hc1 => ?_)
  · have hc1 : l ≥ 0 := hc1
    refine jw_W_n 3 (i' := 14) (ls' := [some (.inr (.inl u)), none, some (.inr (.inl l)), none, some (.inl j), some (.inr (.inl ((Int.gcd u l : Int)))), none, some (.inr (.inl ((Int.gcd u l : Int)))), none]) (st' := [.inl j]) rfl ?_
    refine jw_W_if rfl (by unfold jw_rg; omega) (fun hc2 => ?_) (fun hc2 => ?_)
    · have hc2 : j ≠ 0 := hc2
      refine jw_W_n 2 (i' := 21) (ls' := [some (.inr (.inl u)), none, some (.inr (.inl l)), none, some (.inl j), some (.inr (.inl ((Int.gcd u l : Int)))), none, some (.inr (.inl ((Int.gcd u l : Int)))), none]) (st' := [.inr (.inl ((Int.gcd u l : Int))), .inr (.inl l)]) rfl ?_
      refine jw_W_ldiv rfl (by unfold jw_rgl; omega) (by omega) ?_
      rw [f2]
      refine jw_W_lr rfl ?_
      exact ⟨by unfold jx_fr; rw [if_neg (by omega), if_neg (show ¬ l < 0 by omega)], rfl⟩
    · have hc2 : j = 0 := Classical.not_not.mp hc2
      refine jw_W_n 2 (i' := 17) (ls' := [some (.inr (.inl u)), none, some (.inr (.inl l)), none, some (.inl j), some (.inr (.inl ((Int.gcd u l : Int)))), none, some (.inr (.inl ((Int.gcd u l : Int)))), none]) (st' := [.inr (.inl ((Int.gcd u l : Int))), .inr (.inl u)]) rfl ?_
      refine jw_W_ldiv rfl (by unfold jw_rgl; omega) (by omega) ?_
      rw [f1]
      refine jw_W_n 1 (i' := 22) (ls' := [some (.inr (.inl u)), none, some (.inr (.inl l)), none, some (.inl j), some (.inr (.inl ((Int.gcd u l : Int)))), none, some (.inr (.inl ((Int.gcd u l : Int)))), none]) (st' := [.inr (.inl (u / (Int.gcd u l : Int)))]) rfl ?_
      refine jw_W_lr rfl ?_
      exact ⟨by unfold jx_fr; rw [if_pos (by omega), if_neg (show ¬ l < 0 by omega)], rfl⟩
  · have hc1 : ¬ (l ≥ 0) := hc1
    refine jw_W_n 5 (i' := 14) (ls' := [some (.inr (.inl u)), none, some (.inr (.inl l)), none, some (.inl j), some (.inr (.inl ((Int.gcd u l : Int)))), none, some (.inr (.inl ((-((Int.gcd u l : Int)))))), none]) (st' := [.inl j]) rfl ?_
    refine jw_W_if rfl (by unfold jw_rg; omega) (fun hc3 => ?_) (fun hc3 => ?_)
    · have hc3 : j ≠ 0 := hc3
      refine jw_W_n 2 (i' := 21) (ls' := [some (.inr (.inl u)), none, some (.inr (.inl l)), none, some (.inl j), some (.inr (.inl ((Int.gcd u l : Int)))), none, some (.inr (.inl ((-((Int.gcd u l : Int)))))), none]) (st' := [.inr (.inl ((-((Int.gcd u l : Int))))), .inr (.inl l)]) rfl ?_
      refine jw_W_ldiv rfl (by unfold jw_rgl; omega) (by omega) ?_
      rw [f4]
      refine jw_W_lr rfl ?_
      exact ⟨by unfold jx_fr; rw [if_neg (by omega), if_pos (show l < 0 by omega)], rfl⟩
    · have hc3 : j = 0 := Classical.not_not.mp hc3
      refine jw_W_n 2 (i' := 17) (ls' := [some (.inr (.inl u)), none, some (.inr (.inl l)), none, some (.inl j), some (.inr (.inl ((Int.gcd u l : Int)))), none, some (.inr (.inl ((-((Int.gcd u l : Int)))))), none]) (st' := [.inr (.inl ((-((Int.gcd u l : Int))))), .inr (.inl u)]) rfl ?_
      refine jw_W_ldiv rfl (by unfold jw_rgl; omega) (by omega) ?_
      rw [f3]
      refine jw_W_n 1 (i' := 22) (ls' := [some (.inr (.inl u)), none, some (.inr (.inl l)), none, some (.inl j), some (.inr (.inl ((Int.gcd u l : Int)))), none, some (.inr (.inl ((-((Int.gcd u l : Int)))))), none]) (st' := [.inr (.inl ((-(u / (Int.gcd u l : Int)))))]) rfl ?_
      refine jw_W_lr rfl ?_
      exact ⟨by unfold jx_fr; rw [if_pos (by omega), if_pos (show l < 0 by omega)], rfl⟩
/-- when price has a value -/
def jm_prc (σ : jw_H) (i j w v t : Int) : Prop := ((0 ≤ i ∧ i < σ 103 56) ∧ (0 ≤ j ∧ j < σ 103 56)) ∧ (i ≠ j ∧ jm_E1 σ (jm_ct σ i) (jm_ct σ j)) ∧ ((0 ≤ w ∧ w < σ 103 4) ∧ (0 ≤ v ∧ v < σ 103 4) ∧ w ≠ v) ∧ (t = 0 ∨ t = 1)
/-- the answer of price -/
def jm_pri (σ : jw_H) (i j w v t r : Int) : Prop := (r = -100000000 ∧ ¬ jm_prc σ i j w v t) ∨ (jm_prc σ i j w v t ∧ ((r = -99999999 ∧ jm_mw σ v j i = 0) ∨ (jm_mw σ v j i ≠ 0 ∧ r = if t = 0 then (jx_fr (jm_mw σ w j i) (jm_mw σ v j i)).1 else (jx_fr (jm_mw σ w j i) (jm_mw σ v j i)).2)))
theorem jm_pri_uq {σ : jw_H} {i j w v t a b : Int} (h1 : jm_pri σ i j w v t a) (h2 : jm_pri σ i j w v t b) : a = b := by
  rcases h1 with ⟨e1, a1⟩ | ⟨a1, ⟨e1, b1⟩ | ⟨b1, e1⟩⟩ <;> rcases h2 with ⟨e2, a2⟩ | ⟨a2, ⟨e2, b2⟩ | ⟨b2, e2⟩⟩ <;> first | exact e1.trans e2.symm | exact absurd a1 a2 | exact absurd a2 a1 | exact absurd b1 b2 | exact absurd b2 b1
theorem jm_pri_me {σ0 σ : jw_H} (h : jx_me σ0 σ) (hP : jm_Pb σ0) (i j w v t r : Int) : jm_pri σ i j w v t r ↔ jm_pri σ0 i j w v t r := by
  unfold jm_pri jm_prc jm_E1
  rw [jx_me_R h hP, jx_me_ct h, jx_me_ct h, h 103 (by omega), jm_mw_me h, jm_mw_me h]
theorem jx_price {n : Nat} {σ : jw_H} {o : Nat} {C : List (ge_R × Int)} (hK : jx_K n o C σ) {i j w v t : Int} (hi : jw_rg i) (hj : jw_rg j) (hwr : jw_rg w) (hvr : jw_rg v) (ht : jw_rg t) : jw_T (js_S n) 6 153 [.inr (.inr 13), .inl i, .inl j, .inl w, .inl v, .inl t] σ (fun r σ' => ∃ v', r = some (.inr (.inl v')) ∧ jx_fy σ σ' ∧ jm_pri σ i j w v t v') := by
  refine jw_T_of (D := 5) (M := mm_153) rfl (Nat.le_of_ble_eq_true rfl) (ls0 := [some (.inr (.inr 13)), some (.inl i), some (.inl j), some (.inl w), some (.inl v), some (.inl t), none, none]) rfl ?_ (by rintro _ _ ⟨_, rfl, -⟩; rfl)
  have hI := hK.1
  obtain ⟨hto, hfo, hp, hP, e0, e1, e2, hPm, hcb, c0, p0, -⟩ := jx_I0_x hI
  have ho := hp.1
  have hq := hP.1
  have hw := hP.2.1
  have hq2 := hP.2.2.1
  have hcn := hcb.1
  have rhi := hi
  unfold jw_rg at rhi
  have rhj := hj
  unfold jw_rg at rhj
  have rhwr := hwr
  unfold jw_rg at rhwr
  have rhvr := hvr
  unfold jw_rg at rhvr
  have rht := ht
  unfold jw_rg at rht
  refine jw_W_n 2 (i' := 2) (ls' := [some (.inr (.inr 13)), some (.inl i), some (.inl j), some (.inl w), some (.inl v), some (.inl t), none, none]) (st' := [.inl i, .inr (.inr 13)]) rfl ?_
  refine jw_W_call (as := [.inr (.inr 13), .inl i]) (rest := []) rfl rfl rfl rfl (Nat.le_of_ble_eq_true rfl) (.inr rfl) (jx_isCorner hK hi) (by omega) ?_ rfl
  rintro r1 σz (⟨rfl, hs, q1⟩ | ⟨rfl, hs, q1⟩)
  · rw [hs]
    show jw_W (js_S n) _ md_153 3 [some (.inr (.inr 13)), some (.inl i), some (.inl j), some (.inl w), some (.inl v), some (.inl t), none, none] [.inl 1] σ _
    refine jw_W_if rfl (by unfold jw_rg; omega) (fun hc1 => ?_) (fun hc1 => ?_)
    · exact absurd hc1 (show ¬ ((1 : Int) = 0) by omega)
    · clear hc1
      refine jw_W_n 2 (i' := 6) (ls' := [some (.inr (.inr 13)), some (.inl i), some (.inl j), some (.inl w), some (.inl v), some (.inl t), none, none]) (st' := [.inl j, .inr (.inr 13)]) rfl ?_
      refine jw_W_call (as := [.inr (.inr 13), .inl j]) (rest := []) rfl rfl rfl rfl (Nat.le_of_ble_eq_true rfl) (.inr rfl) (jx_isCorner hK hj) (by omega) ?_ rfl
      rintro r1 σz (⟨rfl, hs, q2⟩ | ⟨rfl, hs, q2⟩)
      · rw [hs]
        show jw_W (js_S n) _ md_153 7 [some (.inr (.inr 13)), some (.inl i), some (.inl j), some (.inl w), some (.inl v), some (.inl t), none, none] [.inl 1] σ _
        refine jw_W_if rfl (by unfold jw_rg; omega) (fun hc2 => ?_) (fun hc2 => ?_)
        · exact absurd hc2 (show ¬ ((1 : Int) = 0) by omega)
        · clear hc2
          refine jw_W_n 2 (i' := 10) (ls' := [some (.inr (.inr 13)), some (.inl i), some (.inl j), some (.inl w), some (.inl v), some (.inl t), none, none]) (st' := [.inl j, .inl i]) rfl ?_
          refine jw_W_ic rfl (by unfold jw_rg; omega) (by unfold jw_rg; omega) (fun hc3 => ?_) (fun hc3 => ?_)
          · have hc3 : i = j := hc3
            refine jw_W_ld2 (z := (-100000000)) rfl rfl ?_
            refine jw_W_lr rfl ?_
            exact ⟨_, rfl, jx_fy_rf σ, .inl ⟨rfl, fun hh => by obtain ⟨z1, z2, z3, z4⟩ := hh; first | omega | exact hE1 z2⟩⟩
          · have hc3 : ¬ (i = j) := hc3
            refine jw_W_n 2 (i' := 13) (ls' := [some (.inr (.inr 13)), some (.inl i), some (.inl j), some (.inl w), some (.inl v), some (.inl t), none, none]) (st' := [.inl w, .inr (.inr 13)]) rfl ?_
            refine jw_W_call (as := [.inr (.inr 13), .inl w]) (rest := []) rfl rfl rfl rfl (Nat.le_of_ble_eq_true rfl) (.inr rfl) (jx_isWish hK hwr) (by omega) ?_ rfl
            rintro r1 σz (⟨rfl, hs, q3⟩ | ⟨rfl, hs, q3⟩)
            · rw [hs]
              show jw_W (js_S n) _ md_153 14 [some (.inr (.inr 13)), some (.inl i), some (.inl j), some (.inl w), some (.inl v), some (.inl t), none, none] [.inl 1] σ _
              refine jw_W_if rfl (by unfold jw_rg; omega) (fun hc4 => ?_) (fun hc4 => ?_)
              · exact absurd hc4 (show ¬ ((1 : Int) = 0) by omega)
              · clear hc4
                refine jw_W_n 2 (i' := 17) (ls' := [some (.inr (.inr 13)), some (.inl i), some (.inl j), some (.inl w), some (.inl v), some (.inl t), none, none]) (st' := [.inl v, .inr (.inr 13)]) rfl ?_
                refine jw_W_call (as := [.inr (.inr 13), .inl v]) (rest := []) rfl rfl rfl rfl (Nat.le_of_ble_eq_true rfl) (.inr rfl) (jx_isWish hK hvr) (by omega) ?_ rfl
                rintro r1 σz (⟨rfl, hs, q4⟩ | ⟨rfl, hs, q4⟩)
                · rw [hs]
                  show jw_W (js_S n) _ md_153 18 [some (.inr (.inr 13)), some (.inl i), some (.inl j), some (.inl w), some (.inl v), some (.inl t), none, none] [.inl 1] σ _
                  refine jw_W_if rfl (by unfold jw_rg; omega) (fun hc5 => ?_) (fun hc5 => ?_)
                  · exact absurd hc5 (show ¬ ((1 : Int) = 0) by omega)
                  · clear hc5
                    refine jw_W_n 2 (i' := 21) (ls' := [some (.inr (.inr 13)), some (.inl i), some (.inl j), some (.inl w), some (.inl v), some (.inl t), none, none]) (st' := [.inl v, .inl w]) rfl ?_
                    refine jw_W_ic rfl (by unfold jw_rg; omega) (by unfold jw_rg; omega) (fun hc6 => ?_) (fun hc6 => ?_)
                    · have hc6 : w = v := hc6
                      refine jw_W_ld2 (z := (-100000000)) rfl rfl ?_
                      refine jw_W_lr rfl ?_
                      exact ⟨_, rfl, jx_fy_rf σ, .inl ⟨rfl, fun hh => by obtain ⟨z1, z2, z3, z4⟩ := hh; first | omega | exact hE1 z2⟩⟩
                    · have hc6 : ¬ (w = v) := hc6
                      refine jw_W_n 2 (i' := 24) (ls' := [some (.inr (.inr 13)), some (.inl i), some (.inl j), some (.inl w), some (.inl v), some (.inl t), none, none]) (st' := [.inl t, .inr (.inr 13)]) rfl ?_
                      refine jw_W_call (as := [.inr (.inr 13), .inl t]) (rest := []) rfl rfl rfl rfl (Nat.le_of_ble_eq_true rfl) (.inr rfl) (jx_isPart hK ht) (by omega) ?_ rfl
                      rintro r1 σz (⟨rfl, hs, q5⟩ | ⟨rfl, hs, q5⟩)
                      · rw [hs]
                        show jw_W (js_S n) _ md_153 25 [some (.inr (.inr 13)), some (.inl i), some (.inl j), some (.inl w), some (.inl v), some (.inl t), none, none] [.inl 1] σ _
                        refine jw_W_if rfl (by unfold jw_rg; omega) (fun hc7 => ?_) (fun hc7 => ?_)
                        · clear hc7
                          obtain ⟨-, ti, vi, -, tui, -⟩ := jx_I0_c hI (i := i) (by omega) (by omega)
                          obtain ⟨-, tj, vj, -, tuj, -⟩ := jx_I0_c hI (i := j) (by omega) (by omega)
                          have hRM : jm_R (jx_M σ o) = jm_R σ := jx_pq_R hI.1.2.2.2 (by omega) (by omega)
                          have hAM : jm_bA (jx_M σ o) = jm_bA σ := jx_pq_bA hI.1.2.2.2 (by omega) (by omega)
                          have hFi : ge_F (jm_R (jx_M σ o)) (jm_ct σ i) := by rw [hRM]; exact vi.1
                          have hFj : ge_F (jm_R (jx_M σ o)) (jm_ct σ j) := by rw [hRM]; exact vj.1
                          have hti : jm_tau (jm_bA (jx_M σ o)) (jm_ct σ i) (σ 63 i) := by rw [hAM, ti]; exact tui
                          have htj : jm_tau (jm_bA (jx_M σ o)) (jm_ct σ j) (σ 63 j) := by rw [hAM, tj]; exact tuj
                          refine jw_W_n 1 (i' := 29) (ls' := [some (.inr (.inr 13)), some (.inl i), some (.inl j), some (.inl w), some (.inl v), some (.inl t), none, none]) (st' := [.inr (.inr 13)]) rfl ?_
                          refine jw_W_gf rfl rfl rfl ?_
                          show jw_W (js_S n) _ md_153 30 [some (.inr (.inr 13)), some (.inl i), some (.inl j), some (.inl w), some (.inl v), some (.inl t), none, none] [.inr (.inr 57)] σ _
                          refine jw_W_n 2 (i' := 32) (ls' := [some (.inr (.inr 13)), some (.inl i), some (.inl j), some (.inl w), some (.inl v), some (.inl t), none, none]) (st' := [.inl j, .inl i, .inr (.inr 57)]) rfl ?_
                          refine jw_W_call (as := [.inr (.inr 57), .inl i, .inl j]) (rest := []) rfl rfl rfl rfl (Nat.le_of_ble_eq_true rfl) (.inr rfl) (jx_areLinked hfo hp hP (by omega) (by omega) (by omega) (by omega) hFi hFj hti htj) (by omega) ?_ rfl
                          rintro r1 σz (⟨rfl, hs, hE1⟩ | ⟨rfl, hs, hE1⟩)
                          · rw [hs]
                            rw [hRM] at hE1
                            show jw_W (js_S n) _ md_153 33 [some (.inr (.inr 13)), some (.inl i), some (.inl j), some (.inl w), some (.inl v), some (.inl t), none, none] [.inl 1] σ _
                            refine jw_W_if rfl (by unfold jw_rg; omega) (fun hc8 => ?_) (fun hc8 => ?_)
                            · clear hc8
                              refine jw_W_n 1 (i' := 37) (ls' := [some (.inr (.inr 13)), some (.inl i), some (.inl j), some (.inl w), some (.inl v), some (.inl t), none, none]) (st' := [.inr (.inr 13)]) rfl ?_
                              refine jw_W_gf rfl rfl rfl ?_
                              show jw_W (js_S n) _ md_153 38 [some (.inr (.inr 13)), some (.inl i), some (.inl j), some (.inl w), some (.inl v), some (.inl t), none, none] [.inr (.inr 57)] σ _
                              refine jw_W_gf rfl rfl rfl ?_
                              show jw_W (js_S n) _ md_153 39 [some (.inr (.inr 13)), some (.inl i), some (.inl j), some (.inl w), some (.inl v), some (.inl t), none, none] [.inr (.inr 58)] σ _
                              refine jw_W_n 3 (i' := 42) (ls' := [some (.inr (.inr 13)), some (.inl i), some (.inl j), some (.inl w), some (.inl v), some (.inl t), none, none]) (st' := [.inr (.inr 13), .inl j, .inl i, .inr (.inr 58)]) rfl ?_
                              refine jw_W_gf rfl rfl rfl ?_
                              show jw_W (js_S n) _ md_153 43 [some (.inr (.inr 13)), some (.inl i), some (.inl j), some (.inl w), some (.inl v), some (.inl t), none, none] [.inr (.inr ((σ 13 2).toNat)), .inl j, .inl i, .inr (.inr 58)] σ _
                              rw [hto]
                              refine jw_W_gf rfl hp.2.1 rfl ?_
                              show jw_W (js_S n) _ md_153 44 [some (.inr (.inr 13)), some (.inl i), some (.inl j), some (.inl w), some (.inl v), some (.inl t), none, none] [.inr (.inr (o + 1)), .inl j, .inl i, .inr (.inr 58)] σ _
                              refine jw_W_n 3 (i' := 47) (ls' := [some (.inr (.inr 13)), some (.inl i), some (.inl j), some (.inl w), some (.inl v), some (.inl t), none, none]) (st' := [.inl (3 * v), .inr (.inr (o + 1)), .inl j, .inl i, .inr (.inr 58)]) rfl ?_
                              refine jw_W_call (as := [.inr (.inr 58), .inl i, .inl j, .inr (.inr (o + 1)), .inl (3 * v)]) (rest := []) rfl rfl rfl rfl (Nat.le_of_ble_eq_true rfl) (.inr rfl) (jx_chM hI (by omega) (by omega) (by omega) (by omega) (by omega) (by omega)) (by omega) ?_ rfl
                              rintro r1 σz ⟨rfl, hs⟩
                              rw [hs]
                              have hbv := jm_mw_bd hPm hcb (w := v) (i := j) (j := i) (by omega) (by omega) (by omega) (by omega) (by omega) (by omega)
                              show jw_W (js_S n) _ md_153 48 [some (.inr (.inr 13)), some (.inl i), some (.inl j), some (.inl w), some (.inl v), some (.inl t), none, none] [.inr (.inl (jm_mw σ v j i))] σ _
                              refine jw_W_n 3 (i' := 51) (ls' := [some (.inr (.inr 13)), some (.inl i), some (.inl j), some (.inl w), some (.inl v), some (.inl t), some (.inr (.inl (jm_mw σ v j i))), none]) (st' := [.inr (.inl 0), .inr (.inl (jm_mw σ v j i))]) rfl ?_
                              refine jw_W_lc rfl rfl (by unfold jw_rgl; omega) (by unfold jw_rgl; omega) (fun hc9 => ?_) (fun hc9 => ?_)
                              · have hc9 : (jm_mw σ v j i) ≠ 0 := hc9
                                refine jw_W_n 2 (i' := 57) (ls' := [some (.inr (.inr 13)), some (.inl i), some (.inl j), some (.inl w), some (.inl v), some (.inl t), some (.inr (.inl (jm_mw σ v j i))), none]) (st' := [.inr (.inr 13), .inr (.inr 13)]) rfl ?_
                                refine jw_W_gf rfl rfl rfl ?_
                                show jw_W (js_S n) _ md_153 58 [some (.inr (.inr 13)), some (.inl i), some (.inl j), some (.inl w), some (.inl v), some (.inl t), some (.inr (.inl (jm_mw σ v j i))), none] [.inr (.inr 57), .inr (.inr 13)] σ _
                                refine jw_W_gf rfl rfl rfl ?_
                                show jw_W (js_S n) _ md_153 59 [some (.inr (.inr 13)), some (.inl i), some (.inl j), some (.inl w), some (.inl v), some (.inl t), some (.inr (.inl (jm_mw σ v j i))), none] [.inr (.inr 58), .inr (.inr 13)] σ _
                                refine jw_W_n 3 (i' := 62) (ls' := [some (.inr (.inr 13)), some (.inl i), some (.inl j), some (.inl w), some (.inl v), some (.inl t), some (.inr (.inl (jm_mw σ v j i))), none]) (st' := [.inr (.inr 13), .inl j, .inl i, .inr (.inr 58), .inr (.inr 13)]) rfl ?_
                                refine jw_W_gf rfl rfl rfl ?_
                                show jw_W (js_S n) _ md_153 63 [some (.inr (.inr 13)), some (.inl i), some (.inl j), some (.inl w), some (.inl v), some (.inl t), some (.inr (.inl (jm_mw σ v j i))), none] [.inr (.inr ((σ 13 2).toNat)), .inl j, .inl i, .inr (.inr 58), .inr (.inr 13)] σ _
                                rw [hto]
                                refine jw_W_gf rfl hp.2.1 rfl ?_
                                show jw_W (js_S n) _ md_153 64 [some (.inr (.inr 13)), some (.inl i), some (.inl j), some (.inl w), some (.inl v), some (.inl t), some (.inr (.inl (jm_mw σ v j i))), none] [.inr (.inr (o + 1)), .inl j, .inl i, .inr (.inr 58), .inr (.inr 13)] σ _
                                refine jw_W_n 3 (i' := 67) (ls' := [some (.inr (.inr 13)), some (.inl i), some (.inl j), some (.inl w), some (.inl v), some (.inl t), some (.inr (.inl (jm_mw σ v j i))), none]) (st' := [.inl (3 * w), .inr (.inr (o + 1)), .inl j, .inl i, .inr (.inr 58), .inr (.inr 13)]) rfl ?_
                                refine jw_W_call (as := [.inr (.inr 58), .inl i, .inl j, .inr (.inr (o + 1)), .inl (3 * w)]) (rest := [.inr (.inr 13)]) rfl rfl rfl rfl (Nat.le_of_ble_eq_true rfl) (.inr rfl) (jx_chM hI (by omega) (by omega) (by omega) (by omega) (by omega) (by omega)) (by omega) ?_ rfl
                                rintro r1 σz ⟨rfl, hs⟩
                                rw [hs]
                                have hbw := jm_mw_bd hPm hcb (w := w) (i := j) (j := i) (by omega) (by omega) (by omega) (by omega) (by omega) (by omega)
                                show jw_W (js_S n) _ md_153 68 [some (.inr (.inr 13)), some (.inl i), some (.inl j), some (.inl w), some (.inl v), some (.inl t), some (.inr (.inl (jm_mw σ v j i))), none] [.inr (.inl (jm_mw σ w j i)), .inr (.inr 13)] σ _
                                refine jw_W_n 2 (i' := 70) (ls' := [some (.inr (.inr 13)), some (.inl i), some (.inl j), some (.inl w), some (.inl v), some (.inl t), some (.inr (.inl (jm_mw σ v j i))), none]) (st' := [.inl t, .inr (.inl (jm_mw σ v j i)), .inr (.inl (jm_mw σ w j i)), .inr (.inr 13)]) rfl ?_
                                refine jw_W_call (as := [.inr (.inr 13), .inr (.inl (jm_mw σ w j i)), .inr (.inl (jm_mw σ v j i)), .inl t]) (rest := []) rfl rfl rfl rfl (Nat.le_of_ble_eq_true rfl) (.inr rfl) (jx_partOf (by unfold jm_bg; omega) (by unfold jm_bg; omega) (by omega) ht) (by omega) ?_ rfl
                                rintro r1 σ2 ⟨rfl, hs⟩
                                have hf98 : jx_fy σ σ2 := by rw [hs]; exact jx_fy_fs (jx_fy_rf σ) (by omega)
                                show jw_W (js_S n) _ md_153 71 [some (.inr (.inr 13)), some (.inl i), some (.inl j), some (.inl w), some (.inl v), some (.inl t), some (.inr (.inl (jm_mw σ v j i))), none] [.inr (.inl (if t = 0 then (jx_fr (jm_mw σ w j i) (jm_mw σ v j i)).1 else (jx_fr (jm_mw σ w j i) (jm_mw σ v j i)).2))] σ2 _
                                refine jw_W_lr rfl ?_
                                exact ⟨_, rfl, hf98, .inr ⟨⟨⟨by omega, by omega⟩, ⟨by omega, hE1.2⟩, ⟨by omega, by omega, by omega⟩, by omega⟩, .inr ⟨by omega, rfl⟩⟩⟩
                              · have hc9 : (jm_mw σ v j i) = 0 := Classical.not_not.mp hc9
                                refine jw_W_ld2 (z := (-99999999)) rfl rfl ?_
                                refine jw_W_n 1 (i' := 71) (ls' := [some (.inr (.inr 13)), some (.inl i), some (.inl j), some (.inl w), some (.inl v), some (.inl t), some (.inr (.inl (jm_mw σ v j i))), none]) (st' := [.inr (.inl ((-99999999)))]) rfl ?_
                                refine jw_W_lr rfl ?_
                                exact ⟨_, rfl, jx_fy_rf σ, .inr ⟨⟨⟨by omega, by omega⟩, ⟨by omega, hE1.2⟩, ⟨by omega, by omega, by omega⟩, by omega⟩, .inl ⟨rfl, by omega⟩⟩⟩
                            · exact absurd hc8 (show ¬ ¬ ((1 : Int) ≠ 0) by omega)
                          · rw [hs]
                            rw [hRM] at hE1
                            show jw_W (js_S n) _ md_153 33 [some (.inr (.inr 13)), some (.inl i), some (.inl j), some (.inl w), some (.inl v), some (.inl t), none, none] [.inl 0] σ _
                            refine jw_W_if rfl (by unfold jw_rg; omega) (fun hc10 => ?_) (fun hc10 => ?_)
                            · exact absurd hc10 (show ¬ ((0 : Int) ≠ 0) by omega)
                            · clear hc10
                              refine jw_W_ld2 (z := (-100000000)) rfl rfl ?_
                              refine jw_W_lr rfl ?_
                              exact ⟨_, rfl, jx_fy_rf σ, .inl ⟨rfl, fun hh => by obtain ⟨z1, z2, z3, z4⟩ := hh; first | omega | exact hE1 z2⟩⟩
                        · exact absurd hc7 (show ¬ ¬ ((1 : Int) ≠ 0) by omega)
                      · rw [hs]
                        show jw_W (js_S n) _ md_153 25 [some (.inr (.inr 13)), some (.inl i), some (.inl j), some (.inl w), some (.inl v), some (.inl t), none, none] [.inl 0] σ _
                        refine jw_W_if rfl (by unfold jw_rg; omega) (fun hc11 => ?_) (fun hc11 => ?_)
                        · exact absurd hc11 (show ¬ ((0 : Int) ≠ 0) by omega)
                        · clear hc11
                          refine jw_W_ld2 (z := (-100000000)) rfl rfl ?_
                          refine jw_W_lr rfl ?_
                          exact ⟨_, rfl, jx_fy_rf σ, .inl ⟨rfl, fun hh => by obtain ⟨z1, z2, z3, z4⟩ := hh; first | omega | exact hE1 z2⟩⟩
                · rw [hs]
                  show jw_W (js_S n) _ md_153 18 [some (.inr (.inr 13)), some (.inl i), some (.inl j), some (.inl w), some (.inl v), some (.inl t), none, none] [.inl 0] σ _
                  refine jw_W_if rfl (by unfold jw_rg; omega) (fun hc12 => ?_) (fun hc12 => ?_)
                  · clear hc12
                    refine jw_W_ld2 (z := (-100000000)) rfl rfl ?_
                    refine jw_W_lr rfl ?_
                    exact ⟨_, rfl, jx_fy_rf σ, .inl ⟨rfl, fun hh => by obtain ⟨z1, z2, z3, z4⟩ := hh; first | omega | exact hE1 z2⟩⟩
                  · exact absurd hc12 (show ¬ ¬ ((0 : Int) = 0) by omega)
            · rw [hs]
              show jw_W (js_S n) _ md_153 14 [some (.inr (.inr 13)), some (.inl i), some (.inl j), some (.inl w), some (.inl v), some (.inl t), none, none] [.inl 0] σ _
              refine jw_W_if rfl (by unfold jw_rg; omega) (fun hc13 => ?_) (fun hc13 => ?_)
              · clear hc13
                refine jw_W_ld2 (z := (-100000000)) rfl rfl ?_
                refine jw_W_lr rfl ?_
                exact ⟨_, rfl, jx_fy_rf σ, .inl ⟨rfl, fun hh => by obtain ⟨z1, z2, z3, z4⟩ := hh; first | omega | exact hE1 z2⟩⟩
              · exact absurd hc13 (show ¬ ¬ ((0 : Int) = 0) by omega)
      · rw [hs]
        show jw_W (js_S n) _ md_153 7 [some (.inr (.inr 13)), some (.inl i), some (.inl j), some (.inl w), some (.inl v), some (.inl t), none, none] [.inl 0] σ _
        refine jw_W_if rfl (by unfold jw_rg; omega) (fun hc14 => ?_) (fun hc14 => ?_)
        · clear hc14
          refine jw_W_ld2 (z := (-100000000)) rfl rfl ?_
          refine jw_W_lr rfl ?_
          exact ⟨_, rfl, jx_fy_rf σ, .inl ⟨rfl, fun hh => by obtain ⟨z1, z2, z3, z4⟩ := hh; first | omega | exact hE1 z2⟩⟩
        · exact absurd hc14 (show ¬ ¬ ((0 : Int) = 0) by omega)
  · rw [hs]
    show jw_W (js_S n) _ md_153 3 [some (.inr (.inr 13)), some (.inl i), some (.inl j), some (.inl w), some (.inl v), some (.inl t), none, none] [.inl 0] σ _
    refine jw_W_if rfl (by unfold jw_rg; omega) (fun hc15 => ?_) (fun hc15 => ?_)
    · clear hc15
      refine jw_W_ld2 (z := (-100000000)) rfl rfl ?_
      refine jw_W_lr rfl ?_
      exact ⟨_, rfl, jx_fy_rf σ, .inl ⟨rfl, fun hh => by obtain ⟨z1, z2, z3, z4⟩ := hh; first | omega | exact hE1 z2⟩⟩
    · exact absurd hc15 (show ¬ ¬ ((0 : Int) = 0) by omega)
theorem jm_price {n : Nat} {σ : jw_H} {C : List (ge_R × Int)} (hKN : jm_KN σ C) {i j w v t : Int} (hi : jw_rg i) (hj : jw_rg j) (hwr : jw_rg w) (hvr : jw_rg v) (ht : jw_rg t) : jw_T (js_S n) 4 321 [.inr (.inr 103), .inl i, .inl j, .inl w, .inl v, .inl t] σ (fun r σ' => ∃ v', r = some (.inr (.inl v')) ∧ σ' = σ ∧ jm_pri σ i j w v t v') := by
  refine jw_T_of (D := 3) (M := mm_321) rfl (Nat.le_of_ble_eq_true rfl) (ls0 := [some (.inr (.inr 103)), some (.inl i), some (.inl j), some (.inl w), some (.inl v), some (.inl t), none, none, none, none]) rfl ?_ (by rintro _ _ ⟨_, rfl, -⟩; rfl)
  have hcb := (jm_kw_cbd hKN.1).2 σ (jm_fk_rf σ)
  have hcn := hcb.1
  have hPm := hKN.1.1
  have hqq := hPm.1
  have hww := hPm.2.1
  have hkk := hPm.2.2.1
  have hg57 := hKN.2.2.1.1
  have hg58 := hKN.2.2.2.1.1
  have rhi := hi
  unfold jw_rg at rhi
  have rhj := hj
  unfold jw_rg at rhj
  have rhwr := hwr
  unfold jw_rg at rhwr
  have rhvr := hvr
  unfold jw_rg at rhvr
  have rht := ht
  unfold jw_rg at rht
  refine jw_W_n 2 (i' := 2) (ls' := [some (.inr (.inr 103)), some (.inl i), some (.inl j), some (.inl w), some (.inl v), some (.inl t), none, none, none, none]) (st' := [.inl i, .inr (.inr 103)]) rfl ?_
  refine jw_W_call (as := [.inr (.inr 103), .inl i]) (rest := []) rfl rfl rfl rfl (Nat.le_of_ble_eq_true rfl) (.inr rfl) (jm_isCorner hcb hi) (by omega) ?_ rfl
  rintro r1 σz (⟨rfl, hs, q6⟩ | ⟨rfl, hs, q6⟩)
  · rw [hs]
    show jw_W (js_S n) _ md_321 3 [some (.inr (.inr 103)), some (.inl i), some (.inl j), some (.inl w), some (.inl v), some (.inl t), none, none, none, none] [.inl 1] σ _
    refine jw_W_if rfl (by unfold jw_rg; omega) (fun hc1 => ?_) (fun hc1 => ?_)
    · exact absurd hc1 (show ¬ ((1 : Int) = 0) by omega)
    · clear hc1
      refine jw_W_n 2 (i' := 6) (ls' := [some (.inr (.inr 103)), some (.inl i), some (.inl j), some (.inl w), some (.inl v), some (.inl t), none, none, none, none]) (st' := [.inl j, .inr (.inr 103)]) rfl ?_
      refine jw_W_call (as := [.inr (.inr 103), .inl j]) (rest := []) rfl rfl rfl rfl (Nat.le_of_ble_eq_true rfl) (.inr rfl) (jm_isCorner hcb hj) (by omega) ?_ rfl
      rintro r1 σz (⟨rfl, hs, q7⟩ | ⟨rfl, hs, q7⟩)
      · rw [hs]
        show jw_W (js_S n) _ md_321 7 [some (.inr (.inr 103)), some (.inl i), some (.inl j), some (.inl w), some (.inl v), some (.inl t), none, none, none, none] [.inl 1] σ _
        refine jw_W_if rfl (by unfold jw_rg; omega) (fun hc2 => ?_) (fun hc2 => ?_)
        · exact absurd hc2 (show ¬ ((1 : Int) = 0) by omega)
        · clear hc2
          refine jw_W_n 1 (i' := 9) (ls' := [some (.inr (.inr 103)), some (.inl i), some (.inl j), some (.inl w), some (.inl v), some (.inl t), none, none, none, none]) (st' := [.inr (.inr 103)]) rfl ?_
          refine jw_W_gf rfl rfl rfl ?_
          show jw_W (js_S n) _ md_321 10 [some (.inr (.inr 103)), some (.inl i), some (.inl j), some (.inl w), some (.inl v), some (.inl t), none, none, none, none] [.inr (.inr 137)] σ _
          refine jw_W_n 1 (i' := 11) (ls' := [some (.inr (.inr 103)), some (.inl i), some (.inl j), some (.inl w), some (.inl v), some (.inl t), none, none, none, none]) (st' := [.inl i, .inr (.inr 137)]) rfl ?_
          refine jw_W_ia rfl rfl (by omega) (by omega) (by omega) ?_
          show jw_W (js_S n) _ md_321 12 [some (.inr (.inr 103)), some (.inl i), some (.inl j), some (.inl w), some (.inl v), some (.inl t), none, none, none, none] [.inl (σ 137 i)] σ _
          refine jw_W_n 1 (i' := 13) (ls' := [some (.inr (.inr 103)), some (.inl i), some (.inl j), some (.inl w), some (.inl v), some (.inl t), none, none, none, none]) (st' := [.inl j, .inl (σ 137 i)]) rfl ?_
          have hl56 := hKN.1.2.1.1.1
          have hm137 := hKN.2.1.1 i (by omega) (by omega)
          refine jw_W_call (as := [.inl (σ 137 i), .inl j]) (rest := []) rfl rfl rfl rfl (Nat.le_of_ble_eq_true rfl) (.inl rfl) (jm_has (hm137.1) (by have := hm137.2; omega) (by omega) (by omega)) (by omega) ?_ rfl
          rintro r1 σz (⟨rfl, hs, hg⟩ | ⟨rfl, hs, hg⟩)
          · rw [hs]
            have hE1 := (jx_nx1 hKN (i := i) (c := j) (by omega) (by omega) (by omega)).mp hg
            show jw_W (js_S n) _ md_321 14 [some (.inr (.inr 103)), some (.inl i), some (.inl j), some (.inl w), some (.inl v), some (.inl t), none, none, none, none] [.inl 1] σ _
            refine jw_W_if rfl (by unfold jw_rg; omega) (fun hc3 => ?_) (fun hc3 => ?_)
            · exact absurd hc3 (show ¬ ((1 : Int) = 0) by omega)
            · clear hc3
              refine jw_W_n 2 (i' := 17) (ls' := [some (.inr (.inr 103)), some (.inl i), some (.inl j), some (.inl w), some (.inl v), some (.inl t), none, none, none, none]) (st' := [.inl w, .inr (.inr 103)]) rfl ?_
              refine jw_W_call (as := [.inr (.inr 103), .inl w]) (rest := []) rfl rfl rfl rfl (Nat.le_of_ble_eq_true rfl) (.inr rfl) (jm_isWish hPm hwr) (by omega) ?_ rfl
              rintro r1 σz (⟨rfl, hs, q8⟩ | ⟨rfl, hs, q8⟩)
              · rw [hs]
                show jw_W (js_S n) _ md_321 18 [some (.inr (.inr 103)), some (.inl i), some (.inl j), some (.inl w), some (.inl v), some (.inl t), none, none, none, none] [.inl 1] σ _
                refine jw_W_if rfl (by unfold jw_rg; omega) (fun hc4 => ?_) (fun hc4 => ?_)
                · exact absurd hc4 (show ¬ ((1 : Int) = 0) by omega)
                · clear hc4
                  refine jw_W_n 2 (i' := 21) (ls' := [some (.inr (.inr 103)), some (.inl i), some (.inl j), some (.inl w), some (.inl v), some (.inl t), none, none, none, none]) (st' := [.inl v, .inr (.inr 103)]) rfl ?_
                  refine jw_W_call (as := [.inr (.inr 103), .inl v]) (rest := []) rfl rfl rfl rfl (Nat.le_of_ble_eq_true rfl) (.inr rfl) (jm_isWish hPm hvr) (by omega) ?_ rfl
                  rintro r1 σz (⟨rfl, hs, q9⟩ | ⟨rfl, hs, q9⟩)
                  · rw [hs]
                    show jw_W (js_S n) _ md_321 22 [some (.inr (.inr 103)), some (.inl i), some (.inl j), some (.inl w), some (.inl v), some (.inl t), none, none, none, none] [.inl 1] σ _
                    refine jw_W_if rfl (by unfold jw_rg; omega) (fun hc5 => ?_) (fun hc5 => ?_)
                    · exact absurd hc5 (show ¬ ((1 : Int) = 0) by omega)
                    · clear hc5
                      refine jw_W_n 2 (i' := 25) (ls' := [some (.inr (.inr 103)), some (.inl i), some (.inl j), some (.inl w), some (.inl v), some (.inl t), none, none, none, none]) (st' := [.inl v, .inl w]) rfl ?_
                      refine jw_W_ic rfl (by unfold jw_rg; omega) (by unfold jw_rg; omega) (fun hc6 => ?_) (fun hc6 => ?_)
                      · have hc6 : w = v := hc6
                        refine jw_W_ld2 (z := (-100000000)) rfl rfl ?_
                        refine jw_W_lr rfl ?_
                        exact ⟨_, rfl, rfl, .inl ⟨rfl, fun hh => by obtain ⟨z1, z2, z3, z4⟩ := hh; first | omega | exact hg ((jx_nx1 hKN (i := i) (c := j) (by omega) (by omega) (by omega)).mpr ⟨by omega, z2.1, z2.2⟩)⟩⟩
                      · have hc6 : ¬ (w = v) := hc6
                        refine jw_W_n 3 (i' := 29) (ls' := [some (.inr (.inr 103)), some (.inl i), some (.inl j), some (.inl w), some (.inl v), some (.inl t), none, none, none, none]) (st' := [.inl 1, .inl 0, .inl t]) rfl ?_
                        refine jw_W_call (as := [.inl t, .inl 0, .inl 1]) (rest := []) rfl rfl rfl rfl (Nat.le_of_ble_eq_true rfl) (.inl rfl) (jm_in (by unfold jw_rg; omega) (by unfold jw_rg; omega) (by unfold jw_rg; omega)) (by omega) ?_ rfl
                        rintro r1 σz (⟨rfl, hs, q10⟩ | ⟨rfl, hs, q10⟩)
                        · rw [hs]
                          show jw_W (js_S n) _ md_321 30 [some (.inr (.inr 103)), some (.inl i), some (.inl j), some (.inl w), some (.inl v), some (.inl t), none, none, none, none] [.inl 1] σ _
                          refine jw_W_if rfl (by unfold jw_rg; omega) (fun hc7 => ?_) (fun hc7 => ?_)
                          · clear hc7
                            refine jw_W_n 4 (i' := 37) (ls' := [some (.inr (.inr 103)), some (.inl i), some (.inl j), some (.inl w), some (.inl v), some (.inl t), none, none, none, none]) (st' := [.inl i, .inl j, .inl w, .inr (.inr 103)]) rfl ?_
                            refine jw_W_call (as := [.inr (.inr 103), .inl w, .inl j, .inl i]) (rest := []) rfl rfl rfl rfl (Nat.le_of_ble_eq_true rfl) (.inr rfl) (jm_moreOf hKN (by omega) (by omega) (by omega) (by omega) (by omega) (by omega)) (by omega) ?_ rfl
                            rintro r1 σz ⟨rfl, hs⟩
                            rw [hs]
                            have hbw := jm_mw_bd hPm hcb (w := w) (i := j) (j := i) (by omega) (by omega) (by omega) (by omega) (by omega) (by omega)
                            show jw_W (js_S n) _ md_321 38 [some (.inr (.inr 103)), some (.inl i), some (.inl j), some (.inl w), some (.inl v), some (.inl t), none, none, none, none] [.inr (.inl (jm_mw σ w j i))] σ _
                            refine jw_W_n 5 (i' := 43) (ls' := [some (.inr (.inr 103)), some (.inl i), some (.inl j), some (.inl w), some (.inl v), some (.inl t), some (.inr (.inl (jm_mw σ w j i))), none, none, none]) (st' := [.inl i, .inl j, .inl v, .inr (.inr 103)]) rfl ?_
                            refine jw_W_call (as := [.inr (.inr 103), .inl v, .inl j, .inl i]) (rest := []) rfl rfl rfl rfl (Nat.le_of_ble_eq_true rfl) (.inr rfl) (jm_moreOf hKN (by omega) (by omega) (by omega) (by omega) (by omega) (by omega)) (by omega) ?_ rfl
                            rintro r1 σz ⟨rfl, hs⟩
                            rw [hs]
                            have hbv := jm_mw_bd hPm hcb (w := v) (i := j) (j := i) (by omega) (by omega) (by omega) (by omega) (by omega) (by omega)
                            show jw_W (js_S n) _ md_321 44 [some (.inr (.inr 103)), some (.inl i), some (.inl j), some (.inl w), some (.inl v), some (.inl t), some (.inr (.inl (jm_mw σ w j i))), none, none, none] [.inr (.inl (jm_mw σ v j i))] σ _
                            refine jw_W_n 3 (i' := 47) (ls' := [some (.inr (.inr 103)), some (.inl i), some (.inl j), some (.inl w), some (.inl v), some (.inl t), some (.inr (.inl (jm_mw σ w j i))), none, some (.inr (.inl (jm_mw σ v j i))), none]) (st' := [.inr (.inl 0), .inr (.inl (jm_mw σ v j i))]) rfl ?_
                            refine jw_W_lc rfl rfl (by unfold jw_rgl; omega) (by unfold jw_rgl; omega) (fun hc8 => ?_) (fun hc8 => ?_)
                            · have hc8 : (jm_mw σ v j i) ≠ 0 := hc8
                              refine jw_W_n 3 (i' := 54) (ls' := [some (.inr (.inr 103)), some (.inl i), some (.inl j), some (.inl w), some (.inl v), some (.inl t), some (.inr (.inl (jm_mw σ w j i))), none, some (.inr (.inl (jm_mw σ v j i))), none]) (st' := [.inl t, .inr (.inl (jm_mw σ v j i)), .inr (.inl (jm_mw σ w j i))]) rfl ?_
                              refine jw_W_call (as := [.inr (.inl (jm_mw σ w j i)), .inr (.inl (jm_mw σ v j i)), .inl t]) (rest := []) rfl rfl rfl rfl (Nat.le_of_ble_eq_true rfl) (.inl rfl) (jm_ofFn (by unfold jm_bg; omega) (by unfold jm_bg; omega) (by omega) ht) (by omega) ?_ rfl
                              rintro r1 σz ⟨rfl, hs⟩
                              rw [hs]
                              show jw_W (js_S n) _ md_321 55 [some (.inr (.inr 103)), some (.inl i), some (.inl j), some (.inl w), some (.inl v), some (.inl t), some (.inr (.inl (jm_mw σ w j i))), none, some (.inr (.inl (jm_mw σ v j i))), none] [.inr (.inl (if t = 0 then (jx_fr (jm_mw σ w j i) (jm_mw σ v j i)).1 else (jx_fr (jm_mw σ w j i) (jm_mw σ v j i)).2))] σ _
                              refine jw_W_lr rfl ?_
                              exact ⟨_, rfl, rfl, .inr ⟨⟨⟨by omega, by omega⟩, ⟨by omega, hE1.2.2⟩, ⟨by omega, by omega, by omega⟩, by omega⟩, .inr ⟨by omega, rfl⟩⟩⟩
                            · have hc8 : (jm_mw σ v j i) = 0 := Classical.not_not.mp hc8
                              refine jw_W_ld2 (z := (-99999999)) rfl rfl ?_
                              refine jw_W_n 1 (i' := 55) (ls' := [some (.inr (.inr 103)), some (.inl i), some (.inl j), some (.inl w), some (.inl v), some (.inl t), some (.inr (.inl (jm_mw σ w j i))), none, some (.inr (.inl (jm_mw σ v j i))), none]) (st' := [.inr (.inl ((-99999999)))]) rfl ?_
                              refine jw_W_lr rfl ?_
                              exact ⟨_, rfl, rfl, .inr ⟨⟨⟨by omega, by omega⟩, ⟨by omega, hE1.2.2⟩, ⟨by omega, by omega, by omega⟩, by omega⟩, .inl ⟨rfl, by omega⟩⟩⟩
                          · exact absurd hc7 (show ¬ ¬ ((1 : Int) ≠ 0) by omega)
                        · rw [hs]
                          show jw_W (js_S n) _ md_321 30 [some (.inr (.inr 103)), some (.inl i), some (.inl j), some (.inl w), some (.inl v), some (.inl t), none, none, none, none] [.inl 0] σ _
                          refine jw_W_if rfl (by unfold jw_rg; omega) (fun hc9 => ?_) (fun hc9 => ?_)
                          · exact absurd hc9 (show ¬ ((0 : Int) ≠ 0) by omega)
                          · clear hc9
                            refine jw_W_ld2 (z := (-100000000)) rfl rfl ?_
                            refine jw_W_lr rfl ?_
                            exact ⟨_, rfl, rfl, .inl ⟨rfl, fun hh => by obtain ⟨z1, z2, z3, z4⟩ := hh; first | omega | exact hg ((jx_nx1 hKN (i := i) (c := j) (by omega) (by omega) (by omega)).mpr ⟨by omega, z2.1, z2.2⟩)⟩⟩
                  · rw [hs]
                    show jw_W (js_S n) _ md_321 22 [some (.inr (.inr 103)), some (.inl i), some (.inl j), some (.inl w), some (.inl v), some (.inl t), none, none, none, none] [.inl 0] σ _
                    refine jw_W_if rfl (by unfold jw_rg; omega) (fun hc10 => ?_) (fun hc10 => ?_)
                    · clear hc10
                      refine jw_W_ld2 (z := (-100000000)) rfl rfl ?_
                      refine jw_W_lr rfl ?_
                      exact ⟨_, rfl, rfl, .inl ⟨rfl, fun hh => by obtain ⟨z1, z2, z3, z4⟩ := hh; first | omega | exact hg ((jx_nx1 hKN (i := i) (c := j) (by omega) (by omega) (by omega)).mpr ⟨by omega, z2.1, z2.2⟩)⟩⟩
                    · exact absurd hc10 (show ¬ ¬ ((0 : Int) = 0) by omega)
              · rw [hs]
                show jw_W (js_S n) _ md_321 18 [some (.inr (.inr 103)), some (.inl i), some (.inl j), some (.inl w), some (.inl v), some (.inl t), none, none, none, none] [.inl 0] σ _
                refine jw_W_if rfl (by unfold jw_rg; omega) (fun hc11 => ?_) (fun hc11 => ?_)
                · clear hc11
                  refine jw_W_ld2 (z := (-100000000)) rfl rfl ?_
                  refine jw_W_lr rfl ?_
                  exact ⟨_, rfl, rfl, .inl ⟨rfl, fun hh => by obtain ⟨z1, z2, z3, z4⟩ := hh; first | omega | exact hg ((jx_nx1 hKN (i := i) (c := j) (by omega) (by omega) (by omega)).mpr ⟨by omega, z2.1, z2.2⟩)⟩⟩
                · exact absurd hc11 (show ¬ ¬ ((0 : Int) = 0) by omega)
          · rw [hs]
            show jw_W (js_S n) _ md_321 14 [some (.inr (.inr 103)), some (.inl i), some (.inl j), some (.inl w), some (.inl v), some (.inl t), none, none, none, none] [.inl 0] σ _
            refine jw_W_if rfl (by unfold jw_rg; omega) (fun hc12 => ?_) (fun hc12 => ?_)
            · clear hc12
              refine jw_W_ld2 (z := (-100000000)) rfl rfl ?_
              refine jw_W_lr rfl ?_
              exact ⟨_, rfl, rfl, .inl ⟨rfl, fun hh => by obtain ⟨z1, z2, z3, z4⟩ := hh; first | omega | exact hg ((jx_nx1 hKN (i := i) (c := j) (by omega) (by omega) (by omega)).mpr ⟨by omega, z2.1, z2.2⟩)⟩⟩
            · exact absurd hc12 (show ¬ ¬ ((0 : Int) = 0) by omega)
      · rw [hs]
        show jw_W (js_S n) _ md_321 7 [some (.inr (.inr 103)), some (.inl i), some (.inl j), some (.inl w), some (.inl v), some (.inl t), none, none, none, none] [.inl 0] σ _
        refine jw_W_if rfl (by unfold jw_rg; omega) (fun hc13 => ?_) (fun hc13 => ?_)
        · clear hc13
          refine jw_W_ld2 (z := (-100000000)) rfl rfl ?_
          refine jw_W_lr rfl ?_
          exact ⟨_, rfl, rfl, .inl ⟨rfl, fun hh => by obtain ⟨z1, z2, z3, z4⟩ := hh; first | omega | exact hg ((jx_nx1 hKN (i := i) (c := j) (by omega) (by omega) (by omega)).mpr ⟨by omega, z2.1, z2.2⟩)⟩⟩
        · exact absurd hc13 (show ¬ ¬ ((0 : Int) = 0) by omega)
  · rw [hs]
    show jw_W (js_S n) _ md_321 3 [some (.inr (.inr 103)), some (.inl i), some (.inl j), some (.inl w), some (.inl v), some (.inl t), none, none, none, none] [.inl 0] σ _
    refine jw_W_if rfl (by unfold jw_rg; omega) (fun hc14 => ?_) (fun hc14 => ?_)
    · clear hc14
      refine jw_W_ld2 (z := (-100000000)) rfl rfl ?_
      refine jw_W_lr rfl ?_
      exact ⟨_, rfl, rfl, .inl ⟨rfl, fun hh => by obtain ⟨z1, z2, z3, z4⟩ := hh; first | omega | exact hg ((jx_nx1 hKN (i := i) (c := j) (by omega) (by omega) (by omega)).mpr ⟨by omega, z2.1, z2.2⟩)⟩⟩
    · exact absurd hc14 (show ¬ ¬ ((0 : Int) = 0) by omega)

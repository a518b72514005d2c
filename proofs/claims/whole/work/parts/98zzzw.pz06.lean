/-! ===== the law, the class: a test ===== -/
theorem jl_test {n : Nat} {σ : jw_H} {b : Int → Int} {m : Int} {e : Int → Int} {C T : Int → jl_R} {k D : Nat} {o : Int} (hok : o + k = 6 ∧ 0 ≤ o) (hS : jl_ms n b m e jl_rgV D 53 o (jl_S b m k)) (hT : k ≠ 0 → jl_ms n b m e jl_bV D 51 (o + 1) T) (hC : k ≠ 0 → jl_ms n b m e jl_bV D 49 (o + 1) C) (hD : 5 ≤ D) {a : Int} (hX : jl_X b m e σ) (ha : a = 0 ∨ a = 1) : jw_T (js_S n) (D + 1) 51 [.inr (.inr 42), .inl o, .inl a] σ (fun r σ' => jl_sv b m e jl_bV (jl_tst b m C T k) a σ r σ') := by
  refine jw_T_of (D := D) (M := mm_51) rfl (Nat.le_of_ble_eq_true rfl) (ls0 := [some (.inr (.inr 42)), some (.inl o), some (.inl a), none, none, none]) rfl ?_ (by rintro _ _ ⟨_, rfl, rfl | rfl, -⟩ <;> rfl)
  have h4 := hX.2.2.1
  have h5 := hX.2.2.2.1
  have h3 := hX.2.1
  have h6 := hX.2.2.2.2.1
  have hh := jl_X_h hX h4.1
  refine jw_W_n 1 (i' := 1) (ls' := [some (.inr (.inr 42)), some (.inl o), some (.inl a), none, none, none]) (st' := [.inr (.inr 42)]) rfl ?_
  refine jw_W_gf rfl rfl rfl ?_
  show jw_W (js_S n) _ md_51 2 [some (.inr (.inr 42)), some (.inl o), some (.inl a), none, none, none] [.inr (.inr 43)] σ _
  refine jw_W_gf rfl rfl rfl ?_
  show jw_W (js_S n) _ md_51 3 [some (.inr (.inr 42)), some (.inl o), some (.inl a), none, none, none] [.inl (σ 43 2)] σ _
  refine jw_W_if rfl (by unfold jw_rg; omega) (fun hc1 => ?_) (fun hc1 => ?_)
  · have hc1 : (σ 43 2) = 0 := hc1
    refine jw_W_n 1 (i' := 7) (ls' := [some (.inr (.inr 42)), some (.inl o), some (.inl a), none, none, none]) (st' := [.inr (.inr 42)]) rfl ?_
    refine jw_W_gf rfl rfl rfl ?_
    show jw_W (js_S n) _ md_51 8 [some (.inr (.inr 42)), some (.inl o), some (.inl a), none, none, none] [.inr (.inr 43)] σ _
    refine jw_W_call (as := [.inr (.inr 43)]) (rest := []) rfl rfl rfl rfl (Nat.le_of_ble_eq_true rfl) (.inr rfl) (jl_here hX) (by omega) ?_ rfl
    rintro r1 σz ⟨rfl, hs⟩
    rw [hs]
    show jw_W (js_S n) _ md_51 9 [some (.inr (.inr 42)), some (.inl o), some (.inl a), none, none, none] [.inl (jk_h b m (σ 43 0))] σ _
    refine jw_W_n 1 (i' := 10) (ls' := [some (.inr (.inr 42)), some (.inl o), some (.inl a), none, none, none]) (st' := [.inl 33, .inl (jk_h b m (σ 43 0))]) rfl ?_
    refine jw_W_ic rfl (by unfold jw_rg; omega) (by unfold jw_rg; omega) (fun hc2 => ?_) (fun hc2 => ?_)
    · have hc2 : (jk_h b m (σ 43 0)) ≠ 33 := hc2
      refine jw_W_n 1 (i' := 27) (ls' := [some (.inr (.inr 42)), some (.inl o), some (.inl a), none, none, none]) (st' := [.inr (.inr 42)]) rfl ?_
      refine jw_W_gf rfl rfl rfl ?_
      show jw_W (js_S n) _ md_51 28 [some (.inr (.inr 42)), some (.inl o), some (.inl a), none, none, none] [.inr (.inr 43)] σ _
      refine jw_W_call (as := [.inr (.inr 43)]) (rest := []) rfl rfl rfl rfl (Nat.le_of_ble_eq_true rfl) (.inr rfl) (jl_here hX) (by omega) ?_ rfl
      rintro r1 σz ⟨rfl, hs⟩
      rw [hs]
      show jw_W (js_S n) _ md_51 29 [some (.inr (.inr 42)), some (.inl o), some (.inl a), none, none, none] [.inl (jk_h b m (σ 43 0))] σ _
      refine jw_W_n 1 (i' := 30) (ls' := [some (.inr (.inr 42)), some (.inl o), some (.inl a), none, none, none]) (st' := [.inl 40, .inl (jk_h b m (σ 43 0))]) rfl ?_
      refine jw_W_ic rfl (by unfold jw_rg; omega) (by unfold jw_rg; omega) (fun hc3 => ?_) (fun hc3 => ?_)
      · have hc3 : (jk_h b m (σ 43 0)) ≠ 40 := hc3
        refine jw_W_n 3 (i' := 55) (ls' := [some (.inr (.inr 42)), some (.inl o), some (.inl a), none, none, none]) (st' := [.inl a, .inl o, .inr (.inr 42)]) rfl ?_
        refine jw_W_call (as := [.inr (.inr 42), .inl o, .inl a]) (rest := []) rfl rfl rfl rfl (Nat.le_of_ble_eq_true rfl) (.inr rfl) (hS σ a hX ha) (by omega) ?_ rfl
        rintro r1 σ6 ⟨v6, rfl, hv⟩
        rename jw_H => σ6
        have hv : jl_sw b m e jl_rgV (jl_S b m k (σ 43 0)) a v6 σ σ6 := hv
        have hX6 := hv.2.1
        have hr6 : jw_rg v6 := hv.1
        unfold jw_rg at hr6
        have h46 := hX6.2.2.1
        have hh6 := jl_X_h hX6 h46.1
        show jw_W (js_S n) _ md_51 56 [some (.inr (.inr 42)), some (.inl o), some (.inl a), none, none, none] [.inl v6] σ6 _
        refine jw_W_n 2 (i' := 58) (ls' := [some (.inr (.inr 42)), some (.inl o), some (.inl a), some (.inl v6), none, none]) (st' := [.inr (.inr 42)]) rfl ?_
        refine jw_W_gf rfl rfl rfl ?_
        show jw_W (js_S n) _ md_51 59 [some (.inr (.inr 42)), some (.inl o), some (.inl a), some (.inl v6), none, none] [.inr (.inr 43)] σ6 _
        refine jw_W_call (as := [.inr (.inr 43)]) (rest := []) rfl rfl rfl rfl (Nat.le_of_ble_eq_true rfl) (.inr rfl) (jl_here hX6) (by omega) ?_ rfl
        rintro r1 σz ⟨rfl, hs⟩
        rw [hs]
        show jw_W (js_S n) _ md_51 60 [some (.inr (.inr 42)), some (.inl o), some (.inl a), some (.inl v6), none, none] [.inl (jk_h b m (σ6 43 0))] σ6 _
        refine jw_W_n 3 (i' := 63) (ls' := [some (.inr (.inr 42)), some (.inl o), some (.inl a), some (.inl v6), some (.inl (jk_h b m (σ6 43 0))), none]) (st' := [.inl 60, .inl (jk_h b m (σ6 43 0))]) rfl ?_
        refine jw_W_ic rfl (by unfold jw_rg; omega) (by unfold jw_rg; omega) (fun hc4 => ?_) (fun hc4 => ?_)
        · have hc4 : (jk_h b m (σ6 43 0)) = 60 := hc4
          refine jw_W_n 1 (i' := 80) (ls' := [some (.inr (.inr 42)), some (.inl o), some (.inl a), some (.inl v6), some (.inl (jk_h b m (σ6 43 0))), none]) (st' := [.inr (.inr 42)]) rfl ?_
          refine jw_W_gf rfl rfl rfl ?_
          show jw_W (js_S n) _ md_51 81 [some (.inr (.inr 42)), some (.inl o), some (.inl a), some (.inl v6), some (.inl (jk_h b m (σ6 43 0))), none] [.inr (.inr 43)] σ6 _
          refine jw_W_n 1 (i' := 82) (ls' := [some (.inr (.inr 42)), some (.inl o), some (.inl a), some (.inl v6), some (.inl (jk_h b m (σ6 43 0))), none]) (st' := [.inr (.inr 43), .inr (.inr 43)]) rfl ?_
          refine jw_W_gf rfl rfl rfl ?_
          show jw_W (js_S n) _ md_51 83 [some (.inr (.inr 42)), some (.inl o), some (.inl a), some (.inl v6), some (.inl (jk_h b m (σ6 43 0))), none] [.inl (σ6 43 0), .inr (.inr 43)] σ6 _
          refine jw_W_n 2 (i' := 85) (ls' := [some (.inr (.inr 42)), some (.inl o), some (.inl a), some (.inl v6), some (.inl (jk_h b m (σ6 43 0))), none]) (st' := [.inl (σ6 43 0 + 1), .inr (.inr 43)]) rfl ?_
          refine jw_W_pf (a := σ6 43 0 + 1) rfl (by omega) rfl rfl rfl rfl rfl ?_
          obtain ⟨σ8, hs8⟩ : ∃ s : jw_H, s = jw_up σ6 43 0 (σ6 43 0 + 1) := ⟨_, rfl⟩
          show jw_W (js_S n) _ _ _ _ _ (jw_up σ6 43 0 (σ6 43 0 + 1)) _
          rw [← hs8]
          have hE8 : jl_E b m e σ6 σ8 := by rw [hs8]; exact jl_E_to hX6 (by have := hh6.2.2 (by omega); omega)
          have e80 : σ8 43 0 = σ6 43 0 + 1 := by rw [hs8, jw_up_eq]
          have e82 : σ8 43 2 = σ6 43 2 := by rw [hs8, jw_up_ne _ (by omega)]
          refine jw_W_n 3 (i' := 89) (ls' := [some (.inr (.inr 42)), some (.inl o), some (.inl a), some (.inl v6), some (.inl (jk_h b m (σ6 43 0))), none]) (st' := [.inl a, .inl o, .inr (.inr 42)]) rfl ?_
          refine jw_W_call (as := [.inr (.inr 42), .inl o, .inl a]) (rest := []) rfl rfl rfl rfl (Nat.le_of_ble_eq_true rfl) (.inr rfl) (hS σ8 a hE8.1 ha) (by omega) ?_ rfl
          rintro r1 σ9 ⟨v9, rfl, hw⟩
          rename jw_H => σ9
          rw [e80] at hw
          have hw : jl_sw b m e jl_rgV (jl_S b m k (σ6 43 0 + 1)) a v9 σ8 σ9 := hw
          have hr9 : jw_rg v9 := hw.1
          unfold jw_rg at hr9
          show jw_W (js_S n) _ md_51 90 [some (.inr (.inr 42)), some (.inl o), some (.inl a), some (.inl v6), some (.inl (jk_h b m (σ6 43 0))), none] [.inl v9] σ9 _
          refine jw_W_n 3 (i' := 93) (ls' := [some (.inr (.inr 42)), some (.inl o), some (.inl a), some (.inl v6), some (.inl (jk_h b m (σ6 43 0))), some (.inl v9)]) (st' := [.inl 61, .inl (jk_h b m (σ6 43 0))]) rfl ?_
          refine jw_W_ic rfl (by unfold jw_rg; omega) (by unfold jw_rg; omega) (fun hc5 => ?_) (fun hc5 => ?_)
          · have hc5 : (jk_h b m (σ6 43 0)) ≠ 61 := hc5
            refine jw_W_n 2 (i' := 103) (ls' := [some (.inr (.inr 42)), some (.inl o), some (.inl a), some (.inl v6), some (.inl (jk_h b m (σ6 43 0))), some (.inl v9)]) (st' := [.inl 60, .inl (jk_h b m (σ6 43 0))]) rfl ?_
            refine jw_W_ic rfl (by unfold jw_rg; omega) (by unfold jw_rg; omega) (fun hc6 => ?_) (fun hc6 => ?_)
            · have hc6 : (jk_h b m (σ6 43 0)) ≠ 60 := hc6
              refine jw_W_n 2 (i' := 113) (ls' := [some (.inr (.inr 42)), some (.inl o), some (.inl a), some (.inl v6), some (.inl (jk_h b m (σ6 43 0))), some (.inl v9)]) (st' := [.inl v9, .inl v6]) rfl ?_
              refine jw_W_ic rfl (by unfold jw_rg; omega) (by unfold jw_rg; omega) (fun hc7 => ?_) (fun hc7 => ?_)
              · have hc7 : v6 ≤ v9 := hc7
                refine jw_W_n 1 (i' := 117) (ls' := [some (.inr (.inr 42)), some (.inl o), some (.inl a), some (.inl v6), some (.inl (jk_h b m (σ6 43 0))), some (.inl v9)]) (st' := [.inl 0]) rfl ?_
                refine jw_W_ir rfl ?_
                have hc := jl_cmp_end (u := 0) hv hE8 e82 hw (jl_com_62 (by omega)) (by omega) (by omega) (by show (0 : Int) = if v6 > v9 then 1 else 0; rw [if_neg (by omega)])
                rw [← jl_tst_c (C := C) (T := T) (by omega) (by omega)] at hc
                exact ⟨0, rfl, hc⟩
              · have hc7 : ¬ (v6 ≤ v9) := hc7
                refine jw_W_n 2 (i' := 117) (ls' := [some (.inr (.inr 42)), some (.inl o), some (.inl a), some (.inl v6), some (.inl (jk_h b m (σ6 43 0))), some (.inl v9)]) (st' := [.inl 1]) rfl ?_
                refine jw_W_ir rfl ?_
                have hc := jl_cmp_end (u := 1) hv hE8 e82 hw (jl_com_62 (by omega)) (by omega) (by omega) (by show (1 : Int) = if v6 > v9 then 1 else 0; rw [if_pos (by omega)])
                rw [← jl_tst_c (C := C) (T := T) (by omega) (by omega)] at hc
                exact ⟨1, rfl, hc⟩
            · have hc6 : (jk_h b m (σ6 43 0)) = 60 := Classical.not_not.mp hc6
              refine jw_W_n 2 (i' := 106) (ls' := [some (.inr (.inr 42)), some (.inl o), some (.inl a), some (.inl v6), some (.inl (jk_h b m (σ6 43 0))), some (.inl v9)]) (st' := [.inl v9, .inl v6]) rfl ?_
              refine jw_W_ic rfl (by unfold jw_rg; omega) (by unfold jw_rg; omega) (fun hc8 => ?_) (fun hc8 => ?_)
              · have hc8 : v6 ≥ v9 := hc8
                refine jw_W_n 2 (i' := 117) (ls' := [some (.inr (.inr 42)), some (.inl o), some (.inl a), some (.inl v6), some (.inl (jk_h b m (σ6 43 0))), some (.inl v9)]) (st' := [.inl 0]) rfl ?_
                refine jw_W_ir rfl ?_
                have hc := jl_cmp_end (u := 0) hv hE8 e82 hw (jl_com_60 (by omega)) (by omega) (by omega) (by show (0 : Int) = if v6 < v9 then 1 else 0; rw [if_neg (by omega)])
                rw [← jl_tst_c (C := C) (T := T) (by omega) (by omega)] at hc
                exact ⟨0, rfl, hc⟩
              · have hc8 : ¬ (v6 ≥ v9) := hc8
                refine jw_W_n 2 (i' := 117) (ls' := [some (.inr (.inr 42)), some (.inl o), some (.inl a), some (.inl v6), some (.inl (jk_h b m (σ6 43 0))), some (.inl v9)]) (st' := [.inl 1]) rfl ?_
                refine jw_W_ir rfl ?_
                have hc := jl_cmp_end (u := 1) hv hE8 e82 hw (jl_com_60 (by omega)) (by omega) (by omega) (by show (1 : Int) = if v6 < v9 then 1 else 0; rw [if_pos (by omega)])
                rw [← jl_tst_c (C := C) (T := T) (by omega) (by omega)] at hc
                exact ⟨1, rfl, hc⟩
          · have hc5 : (jk_h b m (σ6 43 0)) = 61 := Classical.not_not.mp hc5
            refine jw_W_n 2 (i' := 96) (ls' := [some (.inr (.inr 42)), some (.inl o), some (.inl a), some (.inl v6), some (.inl (jk_h b m (σ6 43 0))), some (.inl v9)]) (st' := [.inl v9, .inl v6]) rfl ?_
            refine jw_W_ic rfl (by unfold jw_rg; omega) (by unfold jw_rg; omega) (fun hc9 => ?_) (fun hc9 => ?_)
            · have hc9 : v6 ≠ v9 := hc9
              refine jw_W_n 1 (i' := 100) (ls' := [some (.inr (.inr 42)), some (.inl o), some (.inl a), some (.inl v6), some (.inl (jk_h b m (σ6 43 0))), some (.inl v9)]) (st' := [.inl 0]) rfl ?_
              refine jw_W_ir rfl ?_
              have hc := jl_cmp_end (u := 0) hv hE8 e82 hw (jl_com_61 (by omega)) (by omega) (by omega) (by show (0 : Int) = if v6 = v9 then 1 else 0; rw [if_neg (by omega)])
              rw [← jl_tst_c (C := C) (T := T) (by omega) (by omega)] at hc
              exact ⟨0, rfl, hc⟩
            · have hc9 : v6 = v9 := Classical.not_not.mp hc9
              refine jw_W_n 2 (i' := 100) (ls' := [some (.inr (.inr 42)), some (.inl o), some (.inl a), some (.inl v6), some (.inl (jk_h b m (σ6 43 0))), some (.inl v9)]) (st' := [.inl 1]) rfl ?_
              refine jw_W_ir rfl ?_
              have hc := jl_cmp_end (u := 1) hv hE8 e82 hw (jl_com_61 (by omega)) (by omega) (by omega) (by show (1 : Int) = if v6 = v9 then 1 else 0; rw [if_pos (by omega)])
              rw [← jl_tst_c (C := C) (T := T) (by omega) (by omega)] at hc
              exact ⟨1, rfl, hc⟩
        · have hc4 : ¬ ((jk_h b m (σ6 43 0)) = 60) := hc4
          refine jw_W_n 2 (i' := 66) (ls' := [some (.inr (.inr 42)), some (.inl o), some (.inl a), some (.inl v6), some (.inl (jk_h b m (σ6 43 0))), none]) (st' := [.inl 62, .inl (jk_h b m (σ6 43 0))]) rfl ?_
          refine jw_W_ic rfl (by unfold jw_rg; omega) (by unfold jw_rg; omega) (fun hc10 => ?_) (fun hc10 => ?_)
          · have hc10 : (jk_h b m (σ6 43 0)) = 62 := hc10
            refine jw_W_n 1 (i' := 80) (ls' := [some (.inr (.inr 42)), some (.inl o), some (.inl a), some (.inl v6), some (.inl (jk_h b m (σ6 43 0))), none]) (st' := [.inr (.inr 42)]) rfl ?_
            refine jw_W_gf rfl rfl rfl ?_
            show jw_W (js_S n) _ md_51 81 [some (.inr (.inr 42)), some (.inl o), some (.inl a), some (.inl v6), some (.inl (jk_h b m (σ6 43 0))), none] [.inr (.inr 43)] σ6 _
            refine jw_W_n 1 (i' := 82) (ls' := [some (.inr (.inr 42)), some (.inl o), some (.inl a), some (.inl v6), some (.inl (jk_h b m (σ6 43 0))), none]) (st' := [.inr (.inr 43), .inr (.inr 43)]) rfl ?_
            refine jw_W_gf rfl rfl rfl ?_
            show jw_W (js_S n) _ md_51 83 [some (.inr (.inr 42)), some (.inl o), some (.inl a), some (.inl v6), some (.inl (jk_h b m (σ6 43 0))), none] [.inl (σ6 43 0), .inr (.inr 43)] σ6 _
            refine jw_W_n 2 (i' := 85) (ls' := [some (.inr (.inr 42)), some (.inl o), some (.inl a), some (.inl v6), some (.inl (jk_h b m (σ6 43 0))), none]) (st' := [.inl (σ6 43 0 + 1), .inr (.inr 43)]) rfl ?_
            refine jw_W_pf (a := σ6 43 0 + 1) rfl (by omega) rfl rfl rfl rfl rfl ?_
            obtain ⟨σ8, hs8⟩ : ∃ s : jw_H, s = jw_up σ6 43 0 (σ6 43 0 + 1) := ⟨_, rfl⟩
            show jw_W (js_S n) _ _ _ _ _ (jw_up σ6 43 0 (σ6 43 0 + 1)) _
            rw [← hs8]
            have hE8 : jl_E b m e σ6 σ8 := by rw [hs8]; exact jl_E_to hX6 (by have := hh6.2.2 (by omega); omega)
            have e80 : σ8 43 0 = σ6 43 0 + 1 := by rw [hs8, jw_up_eq]
            have e82 : σ8 43 2 = σ6 43 2 := by rw [hs8, jw_up_ne _ (by omega)]
            refine jw_W_n 3 (i' := 89) (ls' := [some (.inr (.inr 42)), some (.inl o), some (.inl a), some (.inl v6), some (.inl (jk_h b m (σ6 43 0))), none]) (st' := [.inl a, .inl o, .inr (.inr 42)]) rfl ?_
            refine jw_W_call (as := [.inr (.inr 42), .inl o, .inl a]) (rest := []) rfl rfl rfl rfl (Nat.le_of_ble_eq_true rfl) (.inr rfl) (hS σ8 a hE8.1 ha) (by omega) ?_ rfl
            rintro r1 σ9 ⟨v9, rfl, hw⟩
            rename jw_H => σ9
            rw [e80] at hw
            have hw : jl_sw b m e jl_rgV (jl_S b m k (σ6 43 0 + 1)) a v9 σ8 σ9 := hw
            have hr9 : jw_rg v9 := hw.1
            unfold jw_rg at hr9
            show jw_W (js_S n) _ md_51 90 [some (.inr (.inr 42)), some (.inl o), some (.inl a), some (.inl v6), some (.inl (jk_h b m (σ6 43 0))), none] [.inl v9] σ9 _
            refine jw_W_n 3 (i' := 93) (ls' := [some (.inr (.inr 42)), some (.inl o), some (.inl a), some (.inl v6), some (.inl (jk_h b m (σ6 43 0))), some (.inl v9)]) (st' := [.inl 61, .inl (jk_h b m (σ6 43 0))]) rfl ?_
            refine jw_W_ic rfl (by unfold jw_rg; omega) (by unfold jw_rg; omega) (fun hc11 => ?_) (fun hc11 => ?_)
            · have hc11 : (jk_h b m (σ6 43 0)) ≠ 61 := hc11
              refine jw_W_n 2 (i' := 103) (ls' := [some (.inr (.inr 42)), some (.inl o), some (.inl a), some (.inl v6), some (.inl (jk_h b m (σ6 43 0))), some (.inl v9)]) (st' := [.inl 60, .inl (jk_h b m (σ6 43 0))]) rfl ?_
              refine jw_W_ic rfl (by unfold jw_rg; omega) (by unfold jw_rg; omega) (fun hc12 => ?_) (fun hc12 => ?_)
              · have hc12 : (jk_h b m (σ6 43 0)) ≠ 60 := hc12
                refine jw_W_n 2 (i' := 113) (ls' := [some (.inr (.inr 42)), some (.inl o), some (.inl a), some (.inl v6), some (.inl (jk_h b m (σ6 43 0))), some (.inl v9)]) (st' := [.inl v9, .inl v6]) rfl ?_
                refine jw_W_ic rfl (by unfold jw_rg; omega) (by unfold jw_rg; omega) (fun hc13 => ?_) (fun hc13 => ?_)
                · have hc13 : v6 ≤ v9 := hc13
                  refine jw_W_n 1 (i' := 117) (ls' := [some (.inr (.inr 42)), some (.inl o), some (.inl a), some (.inl v6), some (.inl (jk_h b m (σ6 43 0))), some (.inl v9)]) (st' := [.inl 0]) rfl ?_
                  refine jw_W_ir rfl ?_
                  have hc := jl_cmp_end (u := 0) hv hE8 e82 hw (jl_com_62 (by omega)) (by omega) (by omega) (by show (0 : Int) = if v6 > v9 then 1 else 0; rw [if_neg (by omega)])
                  rw [← jl_tst_c (C := C) (T := T) (by omega) (by omega)] at hc
                  exact ⟨0, rfl, hc⟩
                · have hc13 : ¬ (v6 ≤ v9) := hc13
                  refine jw_W_n 2 (i' := 117) (ls' := [some (.inr (.inr 42)), some (.inl o), some (.inl a), some (.inl v6), some (.inl (jk_h b m (σ6 43 0))), some (.inl v9)]) (st' := [.inl 1]) rfl ?_
                  refine jw_W_ir rfl ?_
                  have hc := jl_cmp_end (u := 1) hv hE8 e82 hw (jl_com_62 (by omega)) (by omega) (by omega) (by show (1 : Int) = if v6 > v9 then 1 else 0; rw [if_pos (by omega)])
                  rw [← jl_tst_c (C := C) (T := T) (by omega) (by omega)] at hc
                  exact ⟨1, rfl, hc⟩
              · have hc12 : (jk_h b m (σ6 43 0)) = 60 := Classical.not_not.mp hc12
                refine jw_W_n 2 (i' := 106) (ls' := [some (.inr (.inr 42)), some (.inl o), some (.inl a), some (.inl v6), some (.inl (jk_h b m (σ6 43 0))), some (.inl v9)]) (st' := [.inl v9, .inl v6]) rfl ?_
                refine jw_W_ic rfl (by unfold jw_rg; omega) (by unfold jw_rg; omega) (fun hc14 => ?_) (fun hc14 => ?_)
                · have hc14 : v6 ≥ v9 := hc14
                  refine jw_W_n 2 (i' := 117) (ls' := [some (.inr (.inr 42)), some (.inl o), some (.inl a), some (.inl v6), some (.inl (jk_h b m (σ6 43 0))), some (.inl v9)]) (st' := [.inl 0]) rfl ?_
                  refine jw_W_ir rfl ?_
                  have hc := jl_cmp_end (u := 0) hv hE8 e82 hw (jl_com_60 (by omega)) (by omega) (by omega) (by show (0 : Int) = if v6 < v9 then 1 else 0; rw [if_neg (by omega)])
                  rw [← jl_tst_c (C := C) (T := T) (by omega) (by omega)] at hc
                  exact ⟨0, rfl, hc⟩
                · have hc14 : ¬ (v6 ≥ v9) := hc14
                  refine jw_W_n 2 (i' := 117) (ls' := [some (.inr (.inr 42)), some (.inl o), some (.inl a), some (.inl v6), some (.inl (jk_h b m (σ6 43 0))), some (.inl v9)]) (st' := [.inl 1]) rfl ?_
                  refine jw_W_ir rfl ?_
                  have hc := jl_cmp_end (u := 1) hv hE8 e82 hw (jl_com_60 (by omega)) (by omega) (by omega) (by show (1 : Int) = if v6 < v9 then 1 else 0; rw [if_pos (by omega)])
                  rw [← jl_tst_c (C := C) (T := T) (by omega) (by omega)] at hc
                  exact ⟨1, rfl, hc⟩
            · have hc11 : (jk_h b m (σ6 43 0)) = 61 := Classical.not_not.mp hc11
              refine jw_W_n 2 (i' := 96) (ls' := [some (.inr (.inr 42)), some (.inl o), some (.inl a), some (.inl v6), some (.inl (jk_h b m (σ6 43 0))), some (.inl v9)]) (st' := [.inl v9, .inl v6]) rfl ?_
              refine jw_W_ic rfl (by unfold jw_rg; omega) (by unfold jw_rg; omega) (fun hc15 => ?_) (fun hc15 => ?_)
              · have hc15 : v6 ≠ v9 := hc15
                refine jw_W_n 1 (i' := 100) (ls' := [some (.inr (.inr 42)), some (.inl o), some (.inl a), some (.inl v6), some (.inl (jk_h b m (σ6 43 0))), some (.inl v9)]) (st' := [.inl 0]) rfl ?_
                refine jw_W_ir rfl ?_
                have hc := jl_cmp_end (u := 0) hv hE8 e82 hw (jl_com_61 (by omega)) (by omega) (by omega) (by show (0 : Int) = if v6 = v9 then 1 else 0; rw [if_neg (by omega)])
                rw [← jl_tst_c (C := C) (T := T) (by omega) (by omega)] at hc
                exact ⟨0, rfl, hc⟩
              · have hc15 : v6 = v9 := Classical.not_not.mp hc15
                refine jw_W_n 2 (i' := 100) (ls' := [some (.inr (.inr 42)), some (.inl o), some (.inl a), some (.inl v6), some (.inl (jk_h b m (σ6 43 0))), some (.inl v9)]) (st' := [.inl 1]) rfl ?_
                refine jw_W_ir rfl ?_
                have hc := jl_cmp_end (u := 1) hv hE8 e82 hw (jl_com_61 (by omega)) (by omega) (by omega) (by show (1 : Int) = if v6 = v9 then 1 else 0; rw [if_pos (by omega)])
                rw [← jl_tst_c (C := C) (T := T) (by omega) (by omega)] at hc
                exact ⟨1, rfl, hc⟩
          · have hc10 : ¬ ((jk_h b m (σ6 43 0)) = 62) := hc10
            refine jw_W_n 2 (i' := 69) (ls' := [some (.inr (.inr 42)), some (.inl o), some (.inl a), some (.inl v6), some (.inl (jk_h b m (σ6 43 0))), none]) (st' := [.inl 61, .inl (jk_h b m (σ6 43 0))]) rfl ?_
            refine jw_W_ic rfl (by unfold jw_rg; omega) (by unfold jw_rg; omega) (fun hc16 => ?_) (fun hc16 => ?_)
            · have hc16 : (jk_h b m (σ6 43 0)) = 61 := hc16
              refine jw_W_n 1 (i' := 80) (ls' := [some (.inr (.inr 42)), some (.inl o), some (.inl a), some (.inl v6), some (.inl (jk_h b m (σ6 43 0))), none]) (st' := [.inr (.inr 42)]) rfl ?_
              refine jw_W_gf rfl rfl rfl ?_
              show jw_W (js_S n) _ md_51 81 [some (.inr (.inr 42)), some (.inl o), some (.inl a), some (.inl v6), some (.inl (jk_h b m (σ6 43 0))), none] [.inr (.inr 43)] σ6 _
              refine jw_W_n 1 (i' := 82) (ls' := [some (.inr (.inr 42)), some (.inl o), some (.inl a), some (.inl v6), some (.inl (jk_h b m (σ6 43 0))), none]) (st' := [.inr (.inr 43), .inr (.inr 43)]) rfl ?_
              refine jw_W_gf rfl rfl rfl ?_
              show jw_W (js_S n) _ md_51 83 [some (.inr (.inr 42)), some (.inl o), some (.inl a), some (.inl v6), some (.inl (jk_h b m (σ6 43 0))), none] [.inl (σ6 43 0), .inr (.inr 43)] σ6 _
              refine jw_W_n 2 (i' := 85) (ls' := [some (.inr (.inr 42)), some (.inl o), some (.inl a), some (.inl v6), some (.inl (jk_h b m (σ6 43 0))), none]) (st' := [.inl (σ6 43 0 + 1), .inr (.inr 43)]) rfl ?_
              refine jw_W_pf (a := σ6 43 0 + 1) rfl (by omega) rfl rfl rfl rfl rfl ?_
              obtain ⟨σ8, hs8⟩ : ∃ s : jw_H, s = jw_up σ6 43 0 (σ6 43 0 + 1) := ⟨_, rfl⟩
              show jw_W (js_S n) _ _ _ _ _ (jw_up σ6 43 0 (σ6 43 0 + 1)) _
              rw [← hs8]
              have hE8 : jl_E b m e σ6 σ8 := by rw [hs8]; exact jl_E_to hX6 (by have := hh6.2.2 (by omega); omega)
              have e80 : σ8 43 0 = σ6 43 0 + 1 := by rw [hs8, jw_up_eq]
              have e82 : σ8 43 2 = σ6 43 2 := by rw [hs8, jw_up_ne _ (by omega)]
              refine jw_W_n 3 (i' := 89) (ls' := [some (.inr (.inr 42)), some (.inl o), some (.inl a), some (.inl v6), some (.inl (jk_h b m (σ6 43 0))), none]) (st' := [.inl a, .inl o, .inr (.inr 42)]) rfl ?_
              refine jw_W_call (as := [.inr (.inr 42), .inl o, .inl a]) (rest := []) rfl rfl rfl rfl (Nat.le_of_ble_eq_true rfl) (.inr rfl) (hS σ8 a hE8.1 ha) (by omega) ?_ rfl
              rintro r1 σ9 ⟨v9, rfl, hw⟩
              rename jw_H => σ9
              rw [e80] at hw
              have hw : jl_sw b m e jl_rgV (jl_S b m k (σ6 43 0 + 1)) a v9 σ8 σ9 := hw
              have hr9 : jw_rg v9 := hw.1
              unfold jw_rg at hr9
              show jw_W (js_S n) _ md_51 90 [some (.inr (.inr 42)), some (.inl o), some (.inl a), some (.inl v6), some (.inl (jk_h b m (σ6 43 0))), none] [.inl v9] σ9 _
              refine jw_W_n 3 (i' := 93) (ls' := [some (.inr (.inr 42)), some (.inl o), some (.inl a), some (.inl v6), some (.inl (jk_h b m (σ6 43 0))), some (.inl v9)]) (st' := [.inl 61, .inl (jk_h b m (σ6 43 0))]) rfl ?_
              refine jw_W_ic rfl (by unfold jw_rg; omega) (by unfold jw_rg; omega) (fun hc17 => ?_) (fun hc17 => ?_)
              · have hc17 : (jk_h b m (σ6 43 0)) ≠ 61 := hc17
                refine jw_W_n 2 (i' := 103) (ls' := [some (.inr (.inr 42)), some (.inl o), some (.inl a), some (.inl v6), some (.inl (jk_h b m (σ6 43 0))), some (.inl v9)]) (st' := [.inl 60, .inl (jk_h b m (σ6 43 0))]) rfl ?_
                refine jw_W_ic rfl (by unfold jw_rg; omega) (by unfold jw_rg; omega) (fun hc18 => ?_) (fun hc18 => ?_)
                · have hc18 : (jk_h b m (σ6 43 0)) ≠ 60 := hc18
                  refine jw_W_n 2 (i' := 113) (ls' := [some (.inr (.inr 42)), some (.inl o), some (.inl a), some (.inl v6), some (.inl (jk_h b m (σ6 43 0))), some (.inl v9)]) (st' := [.inl v9, .inl v6]) rfl ?_
                  refine jw_W_ic rfl (by unfold jw_rg; omega) (by unfold jw_rg; omega) (fun hc19 => ?_) (fun hc19 => ?_)
                  · have hc19 : v6 ≤ v9 := hc19
                    refine jw_W_n 1 (i' := 117) (ls' := [some (.inr (.inr 42)), some (.inl o), some (.inl a), some (.inl v6), some (.inl (jk_h b m (σ6 43 0))), some (.inl v9)]) (st' := [.inl 0]) rfl ?_
                    refine jw_W_ir rfl ?_
                    have hc := jl_cmp_end (u := 0) hv hE8 e82 hw (jl_com_62 (by omega)) (by omega) (by omega) (by show (0 : Int) = if v6 > v9 then 1 else 0; rw [if_neg (by omega)])
                    rw [← jl_tst_c (C := C) (T := T) (by omega) (by omega)] at hc
                    exact ⟨0, rfl, hc⟩
                  · have hc19 : ¬ (v6 ≤ v9) := hc19
                    refine jw_W_n 2 (i' := 117) (ls' := [some (.inr (.inr 42)), some (.inl o), some (.inl a), some (.inl v6), some (.inl (jk_h b m (σ6 43 0))), some (.inl v9)]) (st' := [.inl 1]) rfl ?_
                    refine jw_W_ir rfl ?_
                    have hc := jl_cmp_end (u := 1) hv hE8 e82 hw (jl_com_62 (by omega)) (by omega) (by omega) (by show (1 : Int) = if v6 > v9 then 1 else 0; rw [if_pos (by omega)])
                    rw [← jl_tst_c (C := C) (T := T) (by omega) (by omega)] at hc
                    exact ⟨1, rfl, hc⟩
                · have hc18 : (jk_h b m (σ6 43 0)) = 60 := Classical.not_not.mp hc18
                  refine jw_W_n 2 (i' := 106) (ls' := [some (.inr (.inr 42)), some (.inl o), some (.inl a), some (.inl v6), some (.inl (jk_h b m (σ6 43 0))), some (.inl v9)]) (st' := [.inl v9, .inl v6]) rfl ?_
                  refine jw_W_ic rfl (by unfold jw_rg; omega) (by unfold jw_rg; omega) (fun hc20 => ?_) (fun hc20 => ?_)
                  · have hc20 : v6 ≥ v9 := hc20
                    refine jw_W_n 2 (i' := 117) (ls' := [some (.inr (.inr 42)), some (.inl o), some (.inl a), some (.inl v6), some (.inl (jk_h b m (σ6 43 0))), some (.inl v9)]) (st' := [.inl 0]) rfl ?_
                    refine jw_W_ir rfl ?_
                    have hc := jl_cmp_end (u := 0) hv hE8 e82 hw (jl_com_60 (by omega)) (by omega) (by omega) (by show (0 : Int) = if v6 < v9 then 1 else 0; rw [if_neg (by omega)])
                    rw [← jl_tst_c (C := C) (T := T) (by omega) (by omega)] at hc
                    exact ⟨0, rfl, hc⟩
                  · have hc20 : ¬ (v6 ≥ v9) := hc20
                    refine jw_W_n 2 (i' := 117) (ls' := [some (.inr (.inr 42)), some (.inl o), some (.inl a), some (.inl v6), some (.inl (jk_h b m (σ6 43 0))), some (.inl v9)]) (st' := [.inl 1]) rfl ?_
                    refine jw_W_ir rfl ?_
                    have hc := jl_cmp_end (u := 1) hv hE8 e82 hw (jl_com_60 (by omega)) (by omega) (by omega) (by show (1 : Int) = if v6 < v9 then 1 else 0; rw [if_pos (by omega)])
                    rw [← jl_tst_c (C := C) (T := T) (by omega) (by omega)] at hc
                    exact ⟨1, rfl, hc⟩
              · have hc17 : (jk_h b m (σ6 43 0)) = 61 := Classical.not_not.mp hc17
                refine jw_W_n 2 (i' := 96) (ls' := [some (.inr (.inr 42)), some (.inl o), some (.inl a), some (.inl v6), some (.inl (jk_h b m (σ6 43 0))), some (.inl v9)]) (st' := [.inl v9, .inl v6]) rfl ?_
                refine jw_W_ic rfl (by unfold jw_rg; omega) (by unfold jw_rg; omega) (fun hc21 => ?_) (fun hc21 => ?_)
                · have hc21 : v6 ≠ v9 := hc21
                  refine jw_W_n 1 (i' := 100) (ls' := [some (.inr (.inr 42)), some (.inl o), some (.inl a), some (.inl v6), some (.inl (jk_h b m (σ6 43 0))), some (.inl v9)]) (st' := [.inl 0]) rfl ?_
                  refine jw_W_ir rfl ?_
                  have hc := jl_cmp_end (u := 0) hv hE8 e82 hw (jl_com_61 (by omega)) (by omega) (by omega) (by show (0 : Int) = if v6 = v9 then 1 else 0; rw [if_neg (by omega)])
                  rw [← jl_tst_c (C := C) (T := T) (by omega) (by omega)] at hc
                  exact ⟨0, rfl, hc⟩
                · have hc21 : v6 = v9 := Classical.not_not.mp hc21
                  refine jw_W_n 2 (i' := 100) (ls' := [some (.inr (.inr 42)), some (.inl o), some (.inl a), some (.inl v6), some (.inl (jk_h b m (σ6 43 0))), some (.inl v9)]) (st' := [.inl 1]) rfl ?_
                  refine jw_W_ir rfl ?_
                  have hc := jl_cmp_end (u := 1) hv hE8 e82 hw (jl_com_61 (by omega)) (by omega) (by omega) (by show (1 : Int) = if v6 = v9 then 1 else 0; rw [if_pos (by omega)])
                  rw [← jl_tst_c (C := C) (T := T) (by omega) (by omega)] at hc
                  exact ⟨1, rfl, hc⟩
            · have hc16 : ¬ ((jk_h b m (σ6 43 0)) = 61) := hc16
              refine jw_W_n 1 (i' := 71) (ls' := [some (.inr (.inr 42)), some (.inl o), some (.inl a), some (.inl v6), some (.inl (jk_h b m (σ6 43 0))), none]) (st' := [.inr (.inr 42)]) rfl ?_
              refine jw_W_gf rfl rfl rfl ?_
              show jw_W (js_S n) _ md_51 72 [some (.inr (.inr 42)), some (.inl o), some (.inl a), some (.inl v6), some (.inl (jk_h b m (σ6 43 0))), none] [.inr (.inr 43)] σ6 _
              refine jw_W_n 2 (i' := 74) (ls' := [some (.inr (.inr 42)), some (.inl o), some (.inl a), some (.inl v6), some (.inl (jk_h b m (σ6 43 0))), none]) (st' := [.inr (.inr 42), .inl 1, .inr (.inr 43)]) rfl ?_
              refine jw_W_gf rfl rfl rfl ?_
              show jw_W (js_S n) _ md_51 75 [some (.inr (.inr 42)), some (.inl o), some (.inl a), some (.inl v6), some (.inl (jk_h b m (σ6 43 0))), none] [.inr (.inr 43), .inl 1, .inr (.inr 43)] σ6 _
              refine jw_W_gf rfl rfl rfl ?_
              show jw_W (js_S n) _ md_51 76 [some (.inr (.inr 42)), some (.inl o), some (.inl a), some (.inl v6), some (.inl (jk_h b m (σ6 43 0))), none] [.inl (σ6 43 0), .inl 1, .inr (.inr 43)] σ6 _
              refine jw_W_call (as := [.inr (.inr 43), .inl 1, .inl (σ6 43 0)]) (rest := []) rfl rfl rfl rfl (Nat.le_of_ble_eq_true rfl) (.inr rfl) (jl_fail hX6 (by omega) (by omega)) (by omega) ?_ rfl
              rintro r1 σ7 ⟨rfl, hE7, h70, h72⟩
              rename jw_H => σ7
              show jw_W (js_S n) _ md_51 77 [some (.inr (.inr 42)), some (.inl o), some (.inl a), some (.inl v6), some (.inl (jk_h b m (σ6 43 0))), none] [] σ7 _
              refine jw_W_n 1 (i' := 78) (ls' := [some (.inr (.inr 42)), some (.inl o), some (.inl a), some (.inl v6), some (.inl (jk_h b m (σ6 43 0))), none]) (st' := [.inl 0]) rfl ?_
              refine jw_W_ir rfl ?_
              have hc := jl_cmp_no hv hE7 h72 (jl_com_no (by omega) (by omega) (by omega))
              rw [← jl_tst_c (C := C) (T := T) (by omega) (by omega)] at hc
              exact ⟨0, rfl, hc⟩
      · have hc3 : (jk_h b m (σ 43 0)) = 40 := Classical.not_not.mp hc3
        refine jw_W_n 2 (i' := 33) (ls' := [some (.inr (.inr 42)), some (.inl o), some (.inl a), none, none, none]) (st' := [.inl o, .inr (.inr 42)]) rfl ?_
        refine jw_W_call (as := [.inr (.inr 42), .inl o]) (rest := []) rfl rfl rfl rfl (Nat.le_of_ble_eq_true rfl) (.inr rfl) (jl_enter hX (o := o) (by omega) (by omega)) (by omega) ?_ rfl
        rintro r1 σ1 ⟨v1, rfl, hE1, h1⟩
        rename jw_H => σ1
        have hX1 := hE1.1
        have hv1 : v1 = 0 ∨ v1 = 1 := by omega
        show jw_W (js_S n) _ md_51 34 [some (.inr (.inr 42)), some (.inl o), some (.inl a), none, none, none] [.inl v1] σ1 _
        refine jw_W_if rfl (by unfold jw_rg; omega) (fun hc22 => ?_) (fun hc22 => ?_)
        · have hc22 : v1 = 0 := hc22
          refine jw_W_n 3 (i' := 47) (ls' := [some (.inr (.inr 42)), some (.inl o), some (.inl a), some (.inl 0), none, none]) (st' := [.inr (.inr 42)]) rfl ?_
          refine jw_W_gf rfl rfl rfl ?_
          show jw_W (js_S n) _ md_51 48 [some (.inr (.inr 42)), some (.inl o), some (.inl a), some (.inl 0), none, none] [.inr (.inr 43)] σ1 _
          refine jw_W_n 1 (i' := 49) (ls' := [some (.inr (.inr 42)), some (.inl o), some (.inl a), some (.inl 0), none, none]) (st' := [.inl 41, .inr (.inr 43)]) rfl ?_
          refine jw_W_call (as := [.inr (.inr 43), .inl 41]) (rest := []) rfl rfl rfl rfl (Nat.le_of_ble_eq_true rfl) (.inr rfl) (jl_expect hX1 (x := 41) (by omega)) (by omega) ?_ rfl
          rintro r1 σ4 ⟨rfl, hE3, h3e⟩
          rename jw_H => σ4
          show jw_W (js_S n) _ md_51 50 [some (.inr (.inr 42)), some (.inl o), some (.inl a), some (.inl 0), none, none] [] σ4 _
          refine jw_W_n 1 (i' := 51) (ls' := [some (.inr (.inr 42)), some (.inl o), some (.inl a), some (.inl 0), none, none]) (st' := [.inl 0]) rfl ?_
          refine jw_W_ir rfl ?_
          refine jl_sv_bad hE3.1 (jl_D_tr hE1.2.1 hE3.2.1) (by rw [hE3.2.2, hE1.2.2]) (.inl rfl) (fun hz => ?_)
          rcases h1 with ⟨u1, u2, u3⟩ | ⟨u1, u2, u3⟩
          · rw [jl_tst_p0 (by omega) (by omega)]
            have u4 := hE3.2.1.2.2.1 (by rw [u3 hz]; omega)
            exact ⟨by rw [u4, u3 hz], by show -1000 * 5 - σ 43 0 ≠ 0; omega⟩
          · omega
        · have hc22 : ¬ (v1 = 0) := hc22
          refine jw_W_n 5 (i' := 40) (ls' := [some (.inr (.inr 42)), some (.inl o), some (.inl a), none, none, none]) (st' := [.inl a, .inl (o + 1), .inr (.inr 42)]) rfl ?_
          refine jw_W_call (as := [.inr (.inr 42), .inl (o + 1), .inl a]) (rest := []) rfl rfl rfl rfl (Nat.le_of_ble_eq_true rfl) (.inr rfl) (hC (by omega) σ1 a hX1 ha) (by omega) ?_ rfl
          rintro r1 σ3 ⟨v2, rfl, hw⟩
          rename jw_H => σ3
          have hw : jl_sw b m e jl_bV (C (σ1 43 0)) a v2 σ1 σ3 := hw
          have hwb := hw.1
          unfold jl_bV at hwb
          have hX3 := hw.2.1
          have hu : o < 6 ∧ σ1 43 2 = σ 43 2 ∧ σ1 43 0 = σ 43 0 + 1 := by
            rcases h1 with ⟨u1, -⟩ | ⟨-, u2⟩
            · omega
            · exact u2
          show jw_W (js_S n) _ md_51 41 [some (.inr (.inr 42)), some (.inl o), some (.inl a), none, none, none] [.inl v2] σ3 _
          refine jw_W_if rfl (by unfold jw_rg; omega) (fun hc23 => ?_) (fun hc23 => ?_)
          · have hc23 : v2 = 0 := hc23
            refine jw_W_n 3 (i' := 47) (ls' := [some (.inr (.inr 42)), some (.inl o), some (.inl a), some (.inl 0), none, none]) (st' := [.inr (.inr 42)]) rfl ?_
            refine jw_W_gf rfl rfl rfl ?_
            show jw_W (js_S n) _ md_51 48 [some (.inr (.inr 42)), some (.inl o), some (.inl a), some (.inl 0), none, none] [.inr (.inr 43)] σ3 _
            refine jw_W_n 1 (i' := 49) (ls' := [some (.inr (.inr 42)), some (.inl o), some (.inl a), some (.inl 0), none, none]) (st' := [.inl 41, .inr (.inr 43)]) rfl ?_
            refine jw_W_call (as := [.inr (.inr 43), .inl 41]) (rest := []) rfl rfl rfl rfl (Nat.le_of_ble_eq_true rfl) (.inr rfl) (jl_expect hX3 (x := 41) (by omega)) (by omega) ?_ rfl
            rintro r1 σ5 ⟨rfl, hE3, h3e⟩
            rename jw_H => σ5
            show jw_W (js_S n) _ md_51 50 [some (.inr (.inr 42)), some (.inl o), some (.inl a), some (.inl 0), none, none] [] σ5 _
            refine jw_W_n 1 (i' := 51) (ls' := [some (.inr (.inr 42)), some (.inl o), some (.inl a), some (.inl 0), none, none]) (st' := [.inl 0]) rfl ?_
            refine jw_W_ir rfl ?_
            have ev : (0 : Int) = v2 := by omega
            rw [ev]
            refine ⟨v2, rfl, hw.1, hE3.1, jl_D_tr hE1.2.1 (jl_D_tr hw.2.2.1 hE3.2.1), fun h0 => by rw [hE3.2.2, hw.2.2.2.1 h0, hE1.2.2], fun hz => ?_⟩
            obtain ⟨k1, k2⟩ := hw.2.2.2.2 (hu.2.1.trans hz)
            rw [hu.2.2] at k1 k2
            have hX3a := hX3.2.2.1
            by_cases hg : (C (σ 43 0 + 1)).1 = 0
            · obtain ⟨k3, k4⟩ := k2 hg
              rcases h3e with ⟨w1, w2, w3⟩ | ⟨w1, w2⟩
              · rw [k3] at w1 w3
                rw [jl_tst_p2 (by omega) (by omega) hg w1]
                refine ⟨by rw [w2, k1]; exact hg, fun _ => ⟨w3, fun h1 => ?_⟩⟩
                obtain ⟨d, hd1, hd2⟩ := k4 h1
                exact ⟨d, hd1, by rw [hE3.2.2, hd2, hE1.2.2]⟩
              · rw [k3] at w1 w2
                rw [jl_tst_p3 (by omega) (by omega) hg w1]
                have w3 := w2 (by rw [k1]; exact hg)
                exact ⟨w3, fun hn => absurd hn (by show -1000 * 1 - _ ≠ 0; omega)⟩
            · rw [jl_tst_p1 (by omega) (by omega) hg]
              have w3 := hE3.2.1.2.2.1 (by rw [k1]; exact hg)
              exact ⟨by rw [w3, k1], fun hn => absurd hn hg⟩
          · have hc23 : ¬ (v2 = 0) := hc23
            refine jw_W_n 4 (i' := 47) (ls' := [some (.inr (.inr 42)), some (.inl o), some (.inl a), some (.inl 1), none, none]) (st' := [.inr (.inr 42)]) rfl ?_
            refine jw_W_gf rfl rfl rfl ?_
            show jw_W (js_S n) _ md_51 48 [some (.inr (.inr 42)), some (.inl o), some (.inl a), some (.inl 1), none, none] [.inr (.inr 43)] σ3 _
            refine jw_W_n 1 (i' := 49) (ls' := [some (.inr (.inr 42)), some (.inl o), some (.inl a), some (.inl 1), none, none]) (st' := [.inl 41, .inr (.inr 43)]) rfl ?_
            refine jw_W_call (as := [.inr (.inr 43), .inl 41]) (rest := []) rfl rfl rfl rfl (Nat.le_of_ble_eq_true rfl) (.inr rfl) (jl_expect hX3 (x := 41) (by omega)) (by omega) ?_ rfl
            rintro r1 σ5 ⟨rfl, hE3, h3e⟩
            rename jw_H => σ5
            show jw_W (js_S n) _ md_51 50 [some (.inr (.inr 42)), some (.inl o), some (.inl a), some (.inl 1), none, none] [] σ5 _
            refine jw_W_n 1 (i' := 51) (ls' := [some (.inr (.inr 42)), some (.inl o), some (.inl a), some (.inl 1), none, none]) (st' := [.inl 1]) rfl ?_
            refine jw_W_ir rfl ?_
            have ev : (1 : Int) = v2 := by omega
            rw [ev]
            refine ⟨v2, rfl, hw.1, hE3.1, jl_D_tr hE1.2.1 (jl_D_tr hw.2.2.1 hE3.2.1), fun h0 => by rw [hE3.2.2, hw.2.2.2.1 h0, hE1.2.2], fun hz => ?_⟩
            obtain ⟨k1, k2⟩ := hw.2.2.2.2 (hu.2.1.trans hz)
            rw [hu.2.2] at k1 k2
            have hX3a := hX3.2.2.1
            by_cases hg : (C (σ 43 0 + 1)).1 = 0
            · obtain ⟨k3, k4⟩ := k2 hg
              rcases h3e with ⟨w1, w2, w3⟩ | ⟨w1, w2⟩
              · rw [k3] at w1 w3
                rw [jl_tst_p2 (by omega) (by omega) hg w1]
                refine ⟨by rw [w2, k1]; exact hg, fun _ => ⟨w3, fun h1 => ?_⟩⟩
                obtain ⟨d, hd1, hd2⟩ := k4 h1
                exact ⟨d, hd1, by rw [hE3.2.2, hd2, hE1.2.2]⟩
              · rw [k3] at w1 w2
                rw [jl_tst_p3 (by omega) (by omega) hg w1]
                have w3 := w2 (by rw [k1]; exact hg)
                exact ⟨w3, fun hn => absurd hn (by show -1000 * 1 - _ ≠ 0; omega)⟩
            · rw [jl_tst_p1 (by omega) (by omega) hg]
              have w3 := hE3.2.1.2.2.1 (by rw [k1]; exact hg)
              exact ⟨by rw [w3, k1], fun hn => absurd hn hg⟩
    · have hc2 : (jk_h b m (σ 43 0)) = 33 := Classical.not_not.mp hc2
      refine jw_W_n 2 (i' := 13) (ls' := [some (.inr (.inr 42)), some (.inl o), some (.inl a), none, none, none]) (st' := [.inl o, .inr (.inr 42)]) rfl ?_
      refine jw_W_call (as := [.inr (.inr 42), .inl o]) (rest := []) rfl rfl rfl rfl (Nat.le_of_ble_eq_true rfl) (.inr rfl) (jl_enter hX (o := o) (by omega) (by omega)) (by omega) ?_ rfl
      rintro r1 σ1 ⟨v1, rfl, hE1, h1⟩
      rename jw_H => σ1
      have hX1 := hE1.1
      have hv1 : v1 = 0 ∨ v1 = 1 := by omega
      show jw_W (js_S n) _ md_51 14 [some (.inr (.inr 42)), some (.inl o), some (.inl a), none, none, none] [.inl v1] σ1 _
      refine jw_W_if rfl (by unfold jw_rg; omega) (fun hc24 => ?_) (fun hc24 => ?_)
      · have hc24 : v1 = 0 := hc24
        refine jw_W_n 1 (i' := 25) (ls' := [some (.inr (.inr 42)), some (.inl o), some (.inl a), none, none, none]) (st' := [.inl 0]) rfl ?_
        refine jw_W_ir rfl ?_
        exact jl_sv_bad hE1.1 hE1.2.1 (by rw [hE1.2.2]) (.inl rfl) (fun hz => by
          rcases h1 with ⟨u1, u2, u3⟩ | ⟨u1, u2, u3⟩
          · rw [jl_tst_n0 (by omega) (by omega)]
            exact ⟨u3 hz, by show -1000 * 5 - σ 43 0 ≠ 0; omega⟩
          · omega)
      · have hc24 : ¬ (v1 = 0) := hc24
        refine jw_W_n 5 (i' := 20) (ls' := [some (.inr (.inr 42)), some (.inl o), some (.inl a), none, none, none]) (st' := [.inl a, .inl (o + 1), .inr (.inr 42)]) rfl ?_
        refine jw_W_call (as := [.inr (.inr 42), .inl (o + 1), .inl a]) (rest := []) rfl rfl rfl rfl (Nat.le_of_ble_eq_true rfl) (.inr rfl) (hT (by omega) σ1 a hX1 ha) (by omega) ?_ rfl
        rintro r1 σ2 ⟨v2, rfl, hw⟩
        rename jw_H => σ2
        have hw : jl_sw b m e jl_bV (T (σ1 43 0)) a v2 σ1 σ2 := hw
        have hwb := hw.1
        unfold jl_bV at hwb
        have hu : o < 6 ∧ σ1 43 2 = σ 43 2 ∧ σ1 43 0 = σ 43 0 + 1 := by
          rcases h1 with ⟨u1, -⟩ | ⟨-, u2⟩
          · omega
          · exact u2
        show jw_W (js_S n) _ md_51 21 [some (.inr (.inr 42)), some (.inl o), some (.inl a), none, none, none] [.inl v2] σ2 _
        refine jw_W_if rfl (by unfold jw_rg; omega) (fun hc25 => ?_) (fun hc25 => ?_)
        · have hc25 : v2 ≠ 0 := hc25
          refine jw_W_n 1 (i' := 25) (ls' := [some (.inr (.inr 42)), some (.inl o), some (.inl a), none, none, none]) (st' := [.inl 0]) rfl ?_
          refine jw_W_ir rfl ?_
          refine ⟨_, rfl, .inl rfl, hw.2.1, jl_D_tr hE1.2.1 hw.2.2.1, fun h0 => (hw.2.2.2.1 h0).trans (congrFun hE1.2.2 9), fun hz => ?_⟩
          obtain ⟨k1, k2⟩ := hw.2.2.2.2 (hu.2.1.trans hz)
          rw [hu.2.2] at k1 k2
          rw [jl_tst_n (by omega) (by omega)]
          refine ⟨k1, fun hq => ⟨(k2 hq).1, fun h1 => ?_⟩⟩
          obtain ⟨d, hd1, hd2⟩ := (k2 hq).2 h1
          have ev : (0 : Int) = 1 - v2 := by omega
          have kn := jl_val_not hd1
          rw [← ev] at kn
          exact ⟨d, kn, by rw [hd2, congrFun hE1.2.2 9]⟩
        · have hc25 : v2 = 0 := Classical.not_not.mp hc25
          refine jw_W_n 2 (i' := 25) (ls' := [some (.inr (.inr 42)), some (.inl o), some (.inl a), none, none, none]) (st' := [.inl 1]) rfl ?_
          refine jw_W_ir rfl ?_
          refine ⟨_, rfl, .inr rfl, hw.2.1, jl_D_tr hE1.2.1 hw.2.2.1, fun h0 => (hw.2.2.2.1 h0).trans (congrFun hE1.2.2 9), fun hz => ?_⟩
          obtain ⟨k1, k2⟩ := hw.2.2.2.2 (hu.2.1.trans hz)
          rw [hu.2.2] at k1 k2
          rw [jl_tst_n (by omega) (by omega)]
          refine ⟨k1, fun hq => ⟨(k2 hq).1, fun h1 => ?_⟩⟩
          obtain ⟨d, hd1, hd2⟩ := (k2 hq).2 h1
          have ev : (1 : Int) = 1 - v2 := by omega
          have kn := jl_val_not hd1
          rw [← ev] at kn
          exact ⟨d, kn, by rw [hd2, congrFun hE1.2.2 9]⟩
  · have hc1 : ¬ ((σ 43 2) = 0) := hc1
    refine jw_W_n 1 (i' := 5) (ls' := [some (.inr (.inr 42)), some (.inl o), some (.inl a), none, none, none]) (st' := [.inl 0]) rfl ?_
    refine jw_W_ir rfl ?_
    exact jl_sv_bad hX (jl_D_rf σ) rfl (.inl rfl) (fun hz => by omega)
theorem jl_ms_mono {n : Nat} {b : Int → Int} {m : Int} {e : Int → Int} {V : Int → Prop} {D D' M : Nat} {o : Int} {P : Int → jl_R} (h : jl_ms n b m e V D M o P) (hD : D ≤ D') : jl_ms n b m e V D' M o P := fun σ a hX ha => jw_T_mono (h σ a hX ha) hD (fun _ _ h => h)
/-- the class's tests, at each depth -/
theorem jl_readTest {n : Nat} {b : Int → Int} {m : Int} {e : Int → Int} : ∀ (k : Nat) {o : Int}, o + k = 6 → 0 ≤ o → jl_ms n b m e jl_bV (9 + 3 * k) 51 o (jl_T b m k)
  | 0, o, ho, o0 => fun σ a hX ha => jl_test (D := 8) ⟨by omega, o0⟩ (jl_readSum 0 (by omega) o0) (fun h => absurd rfl h) (fun h => absurd rfl h) (by omega) hX ha
  | k + 1, o, ho, o0 => by
    have ih := jl_readTest (n := n) (b := b) (m := m) (e := e) k (o := o + 1) (by omega) (by omega)
    have hS := jl_readSum (n := n) (b := b) (m := m) (e := e) (k + 1) (o := o) (by omega) o0
    have hC := jl_condc (fun i h => jl_ok_T k h) (jl_partc (fun i h => jl_ok_T k h) ih (by omega)) (by omega)
    rw [show 9 + 3 * (k + 1) = 11 + 3 * k + 1 by omega]
    rw [show 8 + 3 * (k + 1) = 11 + 3 * k by omega] at hS
    exact fun σ a hX ha => jl_test (D := 11 + 3 * k) ⟨by omega, o0⟩ hS (fun _ => jl_ms_mono ih (by omega)) (fun _ => jl_ms_mono hC (by omega)) (by omega) hX ha
/-- the class's conditions, one open -/
theorem jl_readCond {n : Nat} {b : Int → Int} {m : Int} {e : Int → Int} : jl_ms n b m e jl_bV 26 49 1 (jl_cnd b m (jl_T b m 5)) := jl_condc (fun i h => jl_ok_T 5 h) (jl_partc (fun i h => jl_ok_T 5 h) (jl_readTest 5 (by omega) (by omega)) (by omega)) (by omega)

/-! ===== chosen (reference) ===== -/
theorem jq_and_cn {σ : jw_H} {C : List (ge_R × Int)} (h : jm_KN σ C) {i : Int} (i0 : 0 ≤ i) (i1 : i < σ 103 56) : (0 ≤ jw_and (σ 137 i) (σ 103 57) ∧ jw_and (σ 137 i) (σ 103 57) ≤ 1048575) ∧ jx_cn (fun k => jb_in (jw_and (σ 137 i) (σ 103 57)) k.toNat) 20 = jx_cn (fun c => jm_nx σ 137 i c ∧ jm_good σ c) (σ 103 56).toNat := by
  have hro := jx_row_cn h i0 i1
  have hb := (jm_kw_cbd h.1).2 σ (jm_fk_rf σ)
  have hn := hb.1
  have hg := h.2.2.1.1
  refine ⟨jm_tt hro.1.1 hg, ?_⟩
  rw [jx_cn_iff (Q := fun c => jm_nx σ 137 i c ∧ jm_good σ c) (fun k k0 k1 => jm_and_in hro.1.1 hg k.toNat)]
  exact jx_cn_more (by omega) (fun k h0 h1 hh => by have := ((jx_nx1 h i0 i1 (by omega)).mp hh.1).1; omega)
def jq_f (σ σ' : jw_H) : Prop := ∀ o, o ≠ 120 → σ' o = σ o
theorem jq_f_up {σ τ : jw_H} {j v : Int} (h : jq_f σ τ) : jq_f σ (jw_up τ 120 j v) := fun o ho => by rw [jw_up_out _ _ _ ho]; exact h o ho
theorem jq_fa_w {σ : jw_H} {i k : Int} (k0 : 0 ≤ k) (k3 : k < 3) : jq_fa σ i (1 + k) = if k < σ 103 4 then ge_f (jm_W σ k) (jm_ct σ i) / (σ 135 i) else 0 := by
  unfold jq_fa
  rw [if_neg (by omega), if_neg (by omega), if_neg (by omega), if_neg (by omega), show 1 + k - 1 = k by omega]
theorem jq_fa_0 (σ : jw_H) (i : Int) : jq_fa σ i 0 = i := if_pos rfl
theorem jq_fa_4 (σ : jw_H) (i : Int) : jq_fa σ i 4 = jx_cn (fun k => jb_in (σ 136 i) k.toNat) 20 := rfl
theorem jq_fa_5 (σ : jw_H) (i : Int) : jq_fa σ i 5 = jx_cn (fun c => jm_nx σ 137 i c) (σ 103 56).toNat := rfl
theorem jq_fa_6 (σ : jw_H) (i : Int) : jq_fa σ i 6 = jx_cn (fun c => jm_nx σ 137 i c ∧ jm_good σ c) (σ 103 56).toNat := rfl
theorem jq_t136 {σ : jw_H} {C : List (ge_R × Int)} (hKN : jm_KN σ C) {i : Int} (i0 : 0 ≤ i) (i1 : i < σ 103 56) : 0 ≤ σ 136 i ∧ σ 136 i ≤ 1048575 := ⟨(jm_tg hKN i0 i1).1.1, by have := (jm_tg hKN i0 i1).1.2; omega⟩
theorem jq_facts_loop {n : Nat} {σ : jw_H} {C : List (ge_R × Int)} (hKN : jm_KN σ C) {i : Int} (i0 : 0 ≤ i) (i1 : i < σ 103 56) : ∀ (f : Nat) {τ : jw_H} {k : Int}, 0 ≤ k → k + (f : Int) = 3 → jq_f σ τ → (∀ j, 0 ≤ j → j < 1 + k → τ 120 j = jq_fa σ i j) → jw_W (js_S n) 2 md_325 7 [some (.inr (.inr 103)), some (.inl i), some (.inl k)] [] τ (fun r σ' => r = none ∧ jq_f σ σ' ∧ ∀ j, 0 ≤ j → j < 7 → σ' 120 j = jq_fa σ i j)
  | f, τ, k, k0, hk, hf, hrow => by
    have hcb := (jm_kw_cbd hKN.1).2 σ (jm_fk_rf σ)
    have hcn := hcb.1
    have hPm := hKN.1.1
    have hww := hPm.2.1
    have hro := jx_row_cn hKN i0 i1
    have hac := jq_and_cn hKN i0 i1
    have e103 : τ 103 = σ 103 := hf 103 (by omega)
    have e4 : τ 103 4 = σ 103 4 := by rw [e103]
    have e56 : τ 103 56 = σ 103 56 := by rw [e103]
    have e57 : τ 103 57 = σ 103 57 := by rw [e103]
    have e135 : τ 135 i = σ 135 i := by rw [hf 135 (by omega)]
    have e136 : τ 136 i = σ 136 i := by rw [hf 136 (by omega)]
    have e137 : τ 137 i = σ 137 i := by rw [hf 137 (by omega)]
    have eW : jm_W τ k = jm_W σ k := by unfold jm_W; rw [hf 104 (by omega)]
    have eC : jm_ct τ i = jm_ct σ i := by unfold jm_ct; rw [hf 132 (by omega), hf 133 (by omega), hf 134 (by omega), hf 135 (by omega)]
    have hPt : jm_Pb τ := by
      unfold jm_Pb at hPm ⊢
      rw [e103, hf 104 (by omega), hf 105 (by omega), hf 106 (by omega)]
      exact hPm
    have hbt : jm_cbd τ := by
      unfold jm_cbd at hcb ⊢
      unfold jm_ct at hcb ⊢
      rw [e103, hf 132 (by omega), hf 133 (by omega), hf 134 (by omega), hf 135 (by omega)]
      exact hcb
    have hwb : k < σ 103 4 → -13122 ≤ ge_f (jm_W σ k) (jm_ct σ i) ∧ ge_f (jm_W σ k) (jm_ct σ i) ≤ 13122 := fun w => by
      have := jm_f_bd (jm_W_sm hPm (k := k) k0 w) (hcb.2 i i0 i1).1
      omega
    have hcw := jm_cw hcb i0 i1
    have hcw2 : σ 135 i ≤ 162 := (hcb.2 i i0 i1).2
    have hqb : k < σ 103 4 → -100000 ≤ ge_f (jm_W σ k) (jm_ct σ i) / σ 135 i ∧ ge_f (jm_W σ k) (jm_ct σ i) / σ 135 i ≤ 100000 := fun w => jq_bd hcw (by have := hwb w; omega)
    have ht136 : 0 ≤ σ 136 i ∧ σ 136 i ≤ 1048575 := by
      have := jq_t136 hKN i0 i1
      omega
    have hn4 := jx_cn_le (fun k => jb_in (σ 136 i) k.toNat) 20
    have hn5 := jx_cn_le (fun c => jm_nx σ 137 i c) (σ 103 56).toNat
    have hn6 := jx_cn_le (fun c => jm_nx σ 137 i c ∧ jm_good σ c) (σ 103 56).toNat
    have next : ∀ {υ : jw_H}, k < 3 → jq_f σ υ → (∀ j, 0 ≤ j → j < 1 + (k + 1) → υ 120 j = jq_fa σ i j) → jw_W (js_S n) 2 md_325 7 [some (.inr (.inr 103)), some (.inl i), some (.inl (k + 1))] [] υ (fun r σ' => r = none ∧ jq_f σ σ' ∧ ∀ j, 0 ≤ j → j < 7 → σ' 120 j = jq_fa σ i j) := by
      intro υ h3 h1 h2
      match f, hk with
      | 0, hk => omega
      | f + 1, hk => exact jq_facts_loop hKN i0 i1 f (by omega) (by omega) h1 h2
    have hw4 := hPm.2.1
    clear hww
    refine jw_W_n 2 (i' := 9) (ls' := [some (.inr (.inr 103)), some (.inl i), some (.inl k)]) (st' := [.inl 3, .inl k]) rfl ?_
    refine jw_W_ic rfl (by unfold jw_rg; omega) (by unfold jw_rg; omega) (fun hc1 => ?_) (fun hc1 => ?_)
    · have hc1 : k ≥ 3 := hc1
      refine jw_W_n 1 (i' := 35) (ls' := [some (.inr (.inr 103)), some (.inl i), some (.inl k)]) (st' := [.inr (.inr 103)]) rfl ?_
      refine jw_W_gf rfl rfl rfl ?_
      show jw_W (js_S n) _ md_325 36 [some (.inr (.inr 103)), some (.inl i), some (.inl k)] [.inr (.inr 120)] τ _
      refine jw_W_n 2 (i' := 38) (ls' := [some (.inr (.inr 103)), some (.inl i), some (.inl k)]) (st' := [.inr (.inr 103), .inl 4, .inr (.inr 120)]) rfl ?_
      refine jw_W_gf rfl rfl rfl ?_
      show jw_W (js_S n) _ md_325 39 [some (.inr (.inr 103)), some (.inl i), some (.inl k)] [.inr (.inr 136), .inl 4, .inr (.inr 120)] τ _
      refine jw_W_n 1 (i' := 40) (ls' := [some (.inr (.inr 103)), some (.inl i), some (.inl k)]) (st' := [.inl i, .inr (.inr 136), .inl 4, .inr (.inr 120)]) rfl ?_
      refine jw_W_ia rfl rfl (by omega) (by omega) (by omega) ?_
      show jw_W (js_S n) _ md_325 41 [some (.inr (.inr 103)), some (.inl i), some (.inl k)] [.inl (τ 136 i), .inl 4, .inr (.inr 120)] τ _
      show jw_W (js_S n) _ md_325 41 [some (.inr (.inr 103)), some (.inl i), some (.inl k)] [.inl (τ 136 i), .inl 4, .inr (.inr 120)] τ _
      rw [e136]
      refine jw_W_call (as := [.inl (σ 136 i)]) (rest := [.inl 4, .inr (.inr 120)]) rfl rfl rfl rfl (Nat.le_of_ble_eq_true rfl) (.inl rfl) (jx_sizeOf (by omega) (by omega)) (by omega) ?_ rfl
      rintro r1 σz ⟨rfl, hs⟩
      rw [hs]
      show jw_W (js_S n) _ md_325 42 [some (.inr (.inr 103)), some (.inl i), some (.inl k)] [.inl (jx_cn (fun k => jb_in (σ 136 i) k.toNat) 20), .inl 4, .inr (.inr 120)] τ _
      refine jw_W_is rfl (by omega) rfl (by omega) (by omega) (by omega) ?_
      refine jw_W_n 1 (i' := 44) (ls' := [some (.inr (.inr 103)), some (.inl i), some (.inl k)]) (st' := [.inr (.inr 103)]) rfl ?_
      refine jw_W_gf rfl rfl rfl ?_
      show jw_W (js_S n) _ md_325 45 [some (.inr (.inr 103)), some (.inl i), some (.inl k)] [.inr (.inr 120)] ((jw_up τ 120 4 (jx_cn (fun k => jb_in (σ 136 i) k.toNat) 20))) _
      refine jw_W_n 2 (i' := 47) (ls' := [some (.inr (.inr 103)), some (.inl i), some (.inl k)]) (st' := [.inr (.inr 103), .inl 5, .inr (.inr 120)]) rfl ?_
      refine jw_W_gf rfl rfl rfl ?_
      show jw_W (js_S n) _ md_325 48 [some (.inr (.inr 103)), some (.inl i), some (.inl k)] [.inr (.inr 137), .inl 5, .inr (.inr 120)] ((jw_up τ 120 4 (jx_cn (fun k => jb_in (σ 136 i) k.toNat) 20))) _
      refine jw_W_n 1 (i' := 49) (ls' := [some (.inr (.inr 103)), some (.inl i), some (.inl k)]) (st' := [.inl i, .inr (.inr 137), .inl 5, .inr (.inr 120)]) rfl ?_
      refine jw_W_ia rfl rfl (by omega) (by omega) (by omega) ?_
      show jw_W (js_S n) _ md_325 50 [some (.inr (.inr 103)), some (.inl i), some (.inl k)] [.inl (τ 137 i), .inl 5, .inr (.inr 120)] ((jw_up τ 120 4 (jx_cn (fun k => jb_in (σ 136 i) k.toNat) 20))) _
      show jw_W (js_S n) _ md_325 50 [some (.inr (.inr 103)), some (.inl i), some (.inl k)] [.inl (τ 137 i), .inl 5, .inr (.inr 120)] ((jw_up τ 120 4 (jx_cn (fun k => jb_in (σ 136 i) k.toNat) 20))) _
      rw [e137]
      refine jw_W_call (as := [.inl (σ 137 i)]) (rest := [.inl 5, .inr (.inr 120)]) rfl rfl rfl rfl (Nat.le_of_ble_eq_true rfl) (.inl rfl) (jx_sizeOf hro.1.1.1 hro.1.1.2) (by omega) ?_ rfl
      rintro r1 σz ⟨rfl, hs⟩
      rw [hs, hro.2.1]
      show jw_W (js_S n) _ md_325 51 [some (.inr (.inr 103)), some (.inl i), some (.inl k)] [.inl (jx_cn (fun c => jm_nx σ 137 i c) (σ 103 56).toNat), .inl 5, .inr (.inr 120)] ((jw_up τ 120 4 (jx_cn (fun k => jb_in (σ 136 i) k.toNat) 20))) _
      refine jw_W_is rfl (by omega) rfl (by omega) (by omega) (by omega) ?_
      refine jw_W_n 1 (i' := 53) (ls' := [some (.inr (.inr 103)), some (.inl i), some (.inl k)]) (st' := [.inr (.inr 103)]) rfl ?_
      refine jw_W_gf rfl rfl rfl ?_
      show jw_W (js_S n) _ md_325 54 [some (.inr (.inr 103)), some (.inl i), some (.inl k)] [.inr (.inr 120)] ((jw_up (jw_up τ 120 4 (jx_cn (fun k => jb_in (σ 136 i) k.toNat) 20)) 120 5 (jx_cn (fun c => jm_nx σ 137 i c) (σ 103 56).toNat))) _
      refine jw_W_n 2 (i' := 56) (ls' := [some (.inr (.inr 103)), some (.inl i), some (.inl k)]) (st' := [.inr (.inr 103), .inl 6, .inr (.inr 120)]) rfl ?_
      refine jw_W_gf rfl rfl rfl ?_
      show jw_W (js_S n) _ md_325 57 [some (.inr (.inr 103)), some (.inl i), some (.inl k)] [.inr (.inr 137), .inl 6, .inr (.inr 120)] ((jw_up (jw_up τ 120 4 (jx_cn (fun k => jb_in (σ 136 i) k.toNat) 20)) 120 5 (jx_cn (fun c => jm_nx σ 137 i c) (σ 103 56).toNat))) _
      refine jw_W_n 1 (i' := 58) (ls' := [some (.inr (.inr 103)), some (.inl i), some (.inl k)]) (st' := [.inl i, .inr (.inr 137), .inl 6, .inr (.inr 120)]) rfl ?_
      refine jw_W_ia rfl rfl (by omega) (by omega) (by omega) ?_
      show jw_W (js_S n) _ md_325 59 [some (.inr (.inr 103)), some (.inl i), some (.inl k)] [.inl (τ 137 i), .inl 6, .inr (.inr 120)] ((jw_up (jw_up τ 120 4 (jx_cn (fun k => jb_in (σ 136 i) k.toNat) 20)) 120 5 (jx_cn (fun c => jm_nx σ 137 i c) (σ 103 56).toNat))) _
      show jw_W (js_S n) _ md_325 59 [some (.inr (.inr 103)), some (.inl i), some (.inl k)] [.inl (τ 137 i), .inl 6, .inr (.inr 120)] ((jw_up (jw_up τ 120 4 (jx_cn (fun k => jb_in (σ 136 i) k.toNat) 20)) 120 5 (jx_cn (fun c => jm_nx σ 137 i c) (σ 103 56).toNat))) _
      rw [e137]
      refine jw_W_n 1 (i' := 60) (ls' := [some (.inr (.inr 103)), some (.inl i), some (.inl k)]) (st' := [.inr (.inr 103), .inl (σ 137 i), .inl 6, .inr (.inr 120)]) rfl ?_
      refine jw_W_gf rfl rfl rfl ?_
      show jw_W (js_S n) _ md_325 61 [some (.inr (.inr 103)), some (.inl i), some (.inl k)] [.inl (τ 103 57), .inl (σ 137 i), .inl 6, .inr (.inr 120)] ((jw_up (jw_up τ 120 4 (jx_cn (fun k => jb_in (σ 136 i) k.toNat) 20)) 120 5 (jx_cn (fun c => jm_nx σ 137 i c) (σ 103 56).toNat))) _
      show jw_W (js_S n) _ md_325 61 [some (.inr (.inr 103)), some (.inl i), some (.inl k)] [.inl (τ 103 57), .inl (σ 137 i), .inl 6, .inr (.inr 120)] ((jw_up (jw_up τ 120 4 (jx_cn (fun k => jb_in (σ 136 i) k.toNat) 20)) 120 5 (jx_cn (fun c => jm_nx σ 137 i c) (σ 103 56).toNat))) _
      rw [e57]
      refine jw_W_n 1 (i' := 62) (ls' := [some (.inr (.inr 103)), some (.inl i), some (.inl k)]) (st' := [.inl (jw_and (σ 137 i) (σ 103 57)), .inl 6, .inr (.inr 120)]) rfl ?_
      refine jw_W_call (as := [.inl (jw_and (σ 137 i) (σ 103 57))]) (rest := [.inl 6, .inr (.inr 120)]) rfl rfl rfl rfl (Nat.le_of_ble_eq_true rfl) (.inl rfl) (jx_sizeOf hac.1.1 hac.1.2) (by omega) ?_ rfl
      rintro r1 σz ⟨rfl, hs⟩
      rw [hs, hac.2]
      show jw_W (js_S n) _ md_325 63 [some (.inr (.inr 103)), some (.inl i), some (.inl k)] [.inl (jx_cn (fun c => jm_nx σ 137 i c ∧ jm_good σ c) (σ 103 56).toNat), .inl 6, .inr (.inr 120)] ((jw_up (jw_up τ 120 4 (jx_cn (fun k => jb_in (σ 136 i) k.toNat) 20)) 120 5 (jx_cn (fun c => jm_nx σ 137 i c) (σ 103 56).toNat))) _
      refine jw_W_is rfl (by omega) rfl (by omega) (by omega) (by omega) ?_
      refine jw_W_re rfl ?_
      refine ⟨rfl, jq_f_up (jq_f_up (jq_f_up hf)), fun j j0 j1 => ?_⟩
      rcases (show j < 4 ∨ j = 4 ∨ j = 5 ∨ j = 6 by omega) with hj | hj | hj | hj
      · rw [jw_up_ne _ (by omega), jw_up_ne _ (by omega), jw_up_ne _ (by omega)]
        exact hrow j j0 (by omega)
      · rw [hj, jw_up_ne _ (by omega), jw_up_ne _ (by omega), jw_up_eq, jq_fa_4]
      · rw [hj, jw_up_ne _ (by omega), jw_up_eq, jq_fa_5]
      · rw [hj, jw_up_eq, jq_fa_6]
    · have hc1 : ¬ (k ≥ 3) := hc1
      refine jw_W_n 1 (i' := 11) (ls' := [some (.inr (.inr 103)), some (.inl i), some (.inl k)]) (st' := [.inr (.inr 103)]) rfl ?_
      refine jw_W_gf rfl rfl rfl ?_
      show jw_W (js_S n) _ md_325 12 [some (.inr (.inr 103)), some (.inl i), some (.inl k)] [.inr (.inr 120)] τ _
      refine jw_W_n 5 (i' := 17) (ls' := [some (.inr (.inr 103)), some (.inl i), some (.inl k)]) (st' := [.inr (.inr 103), .inl k, .inl (1 + k), .inr (.inr 120)]) rfl ?_
      refine jw_W_gf rfl rfl rfl ?_
      show jw_W (js_S n) _ md_325 18 [some (.inr (.inr 103)), some (.inl i), some (.inl k)] [.inl (τ 103 4), .inl k, .inl (1 + k), .inr (.inr 120)] τ _
      refine jw_W_ic rfl (by unfold jw_rg; omega) (by unfold jw_rg; omega) (fun hc2 => ?_) (fun hc2 => ?_)
      · have hc2 : k ≥ (τ 103 4) := hc2
        refine jw_W_n 1 (i' := 31) (ls' := [some (.inr (.inr 103)), some (.inl i), some (.inl k)]) (st' := [.inl 0, .inl (1 + k), .inr (.inr 120)]) rfl ?_
        refine jw_W_is rfl (by omega) rfl (by omega) (by omega) (by omega) ?_
        refine jw_W_n 2 (i' := 7) (ls' := [some (.inr (.inr 103)), some (.inl i), some (.inl (k + 1))]) (st' := []) rfl ?_
        refine next (by omega) (jq_f_up hf) (fun j j0 j1 => ?_)
        by_cases ej : j = 1 + k
        · rw [ej, jw_up_eq, jq_fa_w k0 (by omega), if_neg (by omega)]
        · rw [jw_up_ne _ (by omega)]
          exact hrow j j0 (by omega)
      · have hc2 : ¬ (k ≥ (τ 103 4)) := hc2
        refine jw_W_n 3 (i' := 22) (ls' := [some (.inr (.inr 103)), some (.inl i), some (.inl k)]) (st' := [.inl i, .inl k, .inr (.inr 103), .inl (1 + k), .inr (.inr 120)]) rfl ?_
        refine jw_W_call (as := [.inr (.inr 103), .inl k, .inl i]) (rest := [.inl (1 + k), .inr (.inr 120)]) rfl rfl rfl rfl (Nat.le_of_ble_eq_true rfl) (.inr rfl) (jm_wishedOf (σ := τ) hPt hbt (by omega) (by omega) k0 (by omega)) (by omega) ?_ rfl
        rintro r1 σz ⟨rfl, hs⟩
        rw [hs, eW, eC]
        show jw_W (js_S n) _ md_325 23 [some (.inr (.inr 103)), some (.inl i), some (.inl k)] [.inr (.inl (ge_f (jm_W σ k) (jm_ct σ i))), .inl (1 + k), .inr (.inr 120)] τ _
        refine jw_W_n 1 (i' := 24) (ls' := [some (.inr (.inr 103)), some (.inl i), some (.inl k)]) (st' := [.inr (.inr 103), .inr (.inl (ge_f (jm_W σ k) (jm_ct σ i))), .inl (1 + k), .inr (.inr 120)]) rfl ?_
        refine jw_W_gf rfl rfl rfl ?_
        show jw_W (js_S n) _ md_325 25 [some (.inr (.inr 103)), some (.inl i), some (.inl k)] [.inr (.inr 135), .inr (.inl (ge_f (jm_W σ k) (jm_ct σ i))), .inl (1 + k), .inr (.inr 120)] τ _
        refine jw_W_n 1 (i' := 26) (ls' := [some (.inr (.inr 103)), some (.inl i), some (.inl k)]) (st' := [.inl i, .inr (.inr 135), .inr (.inl (ge_f (jm_W σ k) (jm_ct σ i))), .inl (1 + k), .inr (.inr 120)]) rfl ?_
        refine jw_W_la rfl rfl (by omega) (by omega) (by omega) ?_
        show jw_W (js_S n) _ md_325 27 [some (.inr (.inr 103)), some (.inl i), some (.inl k)] [.inr (.inl (τ 135 i)), .inr (.inl (ge_f (jm_W σ k) (jm_ct σ i))), .inl (1 + k), .inr (.inr 120)] τ _
        rw [e135]
        refine jw_W_call (as := [.inr (.inl (ge_f (jm_W σ k) (jm_ct σ i))), .inr (.inl (σ 135 i))]) (rest := [.inl (1 + k), .inr (.inr 120)]) rfl rfl rfl rfl (Nat.le_of_ble_eq_true rfl) (.inl rfl) (jq_downTo (by omega) (by omega)) (by omega) ?_ rfl
        rintro r1 σz ⟨rfl, hs⟩
        rw [hs]
        show jw_W (js_S n) _ md_325 28 [some (.inr (.inr 103)), some (.inl i), some (.inl k)] [.inr (.inl (ge_f (jm_W σ k) (jm_ct σ i) / σ 135 i)), .inl (1 + k), .inr (.inr 120)] τ _
        refine jw_W_n 2 (i' := 31) (ls' := [some (.inr (.inr 103)), some (.inl i), some (.inl k)]) (st' := [.inl (ge_f (jm_W σ k) (jm_ct σ i) / σ 135 i), .inl (1 + k), .inr (.inr 120)]) rfl ?_
        refine jw_W_is rfl (by omega) rfl (by omega) (by omega) (by omega) ?_
        refine jw_W_n 2 (i' := 7) (ls' := [some (.inr (.inr 103)), some (.inl i), some (.inl (k + 1))]) (st' := []) rfl ?_
        refine next (by omega) (jq_f_up hf) (fun j j0 j1 => ?_)
        by_cases ej : j = 1 + k
        · rw [ej, jw_up_eq, jq_fa_w k0 (by omega), if_pos (by omega)]
        · rw [jw_up_ne _ (by omega)]
          exact hrow j j0 (by omega)
theorem jq_factsOf {n : Nat} {σ : jw_H} {C : List (ge_R × Int)} (hKN : jm_KN σ C) {i : Int} (i0 : 0 ≤ i) (i1 : i < σ 103 56)  : jw_T (js_S n) 3 325 [.inr (.inr 103), .inl i] σ (fun r σ' => r = none ∧ jq_f σ σ' ∧ ∀ j, 0 ≤ j → j < 7 → σ' 120 j = jq_fa σ i j) := by
  refine jw_T_of (D := 2) (M := mm_325) rfl (Nat.le_of_ble_eq_true rfl) (ls0 := [some (.inr (.inr 103)), some (.inl i), none]) rfl ?_ (by rintro _ _ ⟨rfl, -⟩; rfl)
  have hcn := ((jm_kw_cbd hKN.1).2 σ (jm_fk_rf σ)).1
  refine jw_W_n 1 (i' := 1) (ls' := [some (.inr (.inr 103)), some (.inl i), none]) (st' := [.inr (.inr 103)]) rfl ?_
  refine jw_W_gf rfl rfl rfl ?_
  show jw_W (js_S n) _ md_325 2 [some (.inr (.inr 103)), some (.inl i), none] [.inr (.inr 120)] σ _
  refine jw_W_n 2 (i' := 4) (ls' := [some (.inr (.inr 103)), some (.inl i), none]) (st' := [.inl i, .inl 0, .inr (.inr 120)]) rfl ?_
  refine jw_W_is rfl (by omega) rfl (by omega) (by omega) (by omega) ?_
  refine jw_W_n 2 (i' := 7) (ls' := [some (.inr (.inr 103)), some (.inl i), some (.inl 0)]) (st' := []) rfl ?_
  refine jq_facts_loop hKN i0 i1 3 (k := 0) (by omega) (by omega) (jq_f_up (fun _ _ => rfl)) (fun j j0 j1 => ?_)
  rw [show j = 0 by omega, jq_fa_0]
  exact jw_up_eq _ _ _ _
/-- the reference's own rows of the choice: facts, stack -/
def jq_fs (σ σ' : jw_H) : Prop := ∀ o, o ≠ 119 → o ≠ 120 → σ' o = σ o
theorem jq_fs_tr {σ σ' σ'' : jw_H} (h : jq_fs σ σ') (k : jq_fs σ' σ'') : jq_fs σ σ'' := fun o h1 h2 => (k o h1 h2).trans (h o h1 h2)
theorem jq_fs_z {σ σ' : jw_H} {C : List (ge_R × Int)} (hKN : jm_KN σ C) (h : jq_fs σ σ') : jm_fz σ σ' := ⟨fun o h1 h2 => h o (by omega) (by omega), fun j _ => by rw [h 103 (by omega) (by omega)], by have := hKN.1.2.2.2.2.1; unfold jm_Ns at this ⊢; rw [h 131 (by omega) (by omega)]; exact this⟩
theorem jq_mc {σ σ' : jw_H} {L : List jl_Q} (h : jl_mc σ L) (e : jq_fs σ σ') : jl_mc σ' L := by
  unfold jl_mc
  rw [e 103 (by omega) (by omega), e 115 (by omega) (by omega), e 116 (by omega) (by omega), e 117 (by omega) (by omega), e 118 (by omega) (by omega)]
  refine ⟨h.1, h.2.1, fun t q hq => ?_⟩
  obtain ⟨h1, h2, h3, h4, h5, h6, h7, h8, h9⟩ := h.2.2 t q hq
  exact ⟨h1, h2, h3, h4, h5, h6, jl_cs_fr h7 (e 114 (by omega) (by omega)), jl_cs_fr h8 (e 114 (by omega) (by omega)), h9⟩
theorem jq_fa_s {σ σ' : jw_H} (e : jq_fs σ σ') (i j : Int) : jq_fa σ' i j = jq_fa σ i j := jq_fa_me (fun c h1 _ => e c (by omega) (by omega)) (by rw [e 103 (by omega) (by omega)]) (by rw [e 103 (by omega) (by omega)]) (by rw [e 103 (by omega) (by omega)]) i j
theorem jq_fa_rg' {σ : jw_H} {C : List (ge_R × Int)} (hKN : jm_KN σ C) {i : Int} (i0 : 0 ≤ i) (i1 : i < σ 103 56) : ∀ j, 0 ≤ j → j < 7 → jw_rg (jq_fa σ i j) := jq_fa_rg hKN i0 i1
theorem jq_ch_loop {n : Nat} {σ : jw_H} {C : List (ge_R × Int)} (hKN : jm_KN σ C) {L : List jl_Q} (hL0 : jl_mc σ L) {w : Int} (hw : w = 0 ∨ w = 1) : ∀ (f : Nat) {τ : jw_H} {i : Int}, 0 ≤ i → i + (f : Int) = σ 103 56 → jq_fs σ τ → jw_W (js_S n) 4 md_326 13 [some (.inr (.inr 103)), some (.inl w), some (.inl ((jq_ch σ L i.toNat).1)), some (.inl ((jq_ch σ L i.toNat).2)), some (.inl i)] [] τ (fun r σ' => r = some (.inl (if w = 0 then (jq_ch σ L (σ 103 56).toNat).1 else (jq_ch σ L (σ 103 56).toNat).2)) ∧ jq_fs σ σ')
  | f, τ, i, i0, hk, hf => by
    have hcn := ((jm_kw_cbd hKN.1).2 σ (jm_fk_rf σ)).1
    have hg57 := hKN.2.2.1.1
    have e56 : τ 103 56 = σ 103 56 := by rw [hf 103 (by omega) (by omega)]
    have hL := jq_mc hL0 (fun o _ _ => rfl)
    have hKNt : jm_KN τ C := jm_KN_fz (jq_fs_z hKN hf) hKN
    have hchr := jq_ch_rg σ L i.toNat
    have hch1 : -100000 ≤ (jq_ch σ L i.toNat).1 ∧ (jq_ch σ L i.toNat).1 ≤ 100 := by rcases hchr with z | z; rw [z]; exact ⟨Int.le_refl _, by decide⟩; omega
    have hch2 : -100000 ≤ (jq_ch σ L i.toNat).2 ∧ (jq_ch σ L i.toNat).2 ≤ 9999 := by rcases hchr with z | z; rw [z]; exact ⟨Int.le_refl _, by decide⟩; omega
    have hdr := jq_do_rg (jq_fa σ i) L (w := (0, 0, 0)) (by show -9999 ≤ (0 : Int) ∧ (0 : Int) ≤ 9999; omega)
    have next : i < σ 103 56 → ∀ {υ : jw_H}, jq_fs σ υ → jw_W (js_S n) 4 md_326 13 [some (.inr (.inr 103)), some (.inl w), some (.inl ((jq_ch σ L (i + 1).toNat).1)), some (.inl ((jq_ch σ L (i + 1).toNat).2)), some (.inl (i + 1))] [] υ (fun r σ' => r = some (.inl (if w = 0 then (jq_ch σ L (σ 103 56).toNat).1 else (jq_ch σ L (σ 103 56).toNat).2)) ∧ jq_fs σ σ') := by
      intro h1 υ h2
      match f, hk with
      | 0, hk => omega
      | f + 1, hk => exact jq_ch_loop hKN hL0 hw f (by omega) (by omega) h2
    have stepn : ¬ (jm_good σ i ∧ (jl_do (jq_fa σ i) L (0, 0, 0)).2.1 ≠ 1 ∧ (jq_ch σ L i.toNat).2 < (jl_do (jq_fa σ i) L (0, 0, 0)).1) → i < σ 103 56 → ∀ {υ : jw_H}, jq_fs σ υ → jw_W (js_S n) 4 md_326 13 [some (.inr (.inr 103)), some (.inl w), some (.inl ((jq_ch σ L i.toNat).1)), some (.inl ((jq_ch σ L i.toNat).2)), some (.inl (i + 1))] [] υ (fun r σ' => r = some (.inl (if w = 0 then (jq_ch σ L (σ 103 56).toNat).1 else (jq_ch σ L (σ 103 56).toNat).2)) ∧ jq_fs σ σ') := by
      intro hn h1 υ h2
      have := next h1 h2
      rw [jq_ch_n i0 hn] at this
      exact this
    have stepy : jm_good σ i → (jl_do (jq_fa σ i) L (0, 0, 0)).2.1 ≠ 1 → (jq_ch σ L i.toNat).2 < (jl_do (jq_fa σ i) L (0, 0, 0)).1 → i < σ 103 56 → ∀ {υ : jw_H}, jq_fs σ υ → jw_W (js_S n) 4 md_326 13 [some (.inr (.inr 103)), some (.inl w), some (.inl i), some (.inl ((jl_do (jq_fa σ i) L (0, 0, 0)).1)), some (.inl (i + 1))] [] υ (fun r σ' => r = some (.inl (if w = 0 then (jq_ch σ L (σ 103 56).toNat).1 else (jq_ch σ L (σ 103 56).toNat).2)) ∧ jq_fs σ σ') := by
      intro hg h9 hlt h1 υ h2
      have := next h1 h2
      rw [jq_ch_y i0 ⟨hg, h9, hlt⟩] at this
      exact this
    clear hchr
    refine jw_W_n 2 (i' := 15) (ls' := [some (.inr (.inr 103)), some (.inl w), some (.inl ((jq_ch σ L i.toNat).1)), some (.inl ((jq_ch σ L i.toNat).2)), some (.inl i)]) (st' := [.inr (.inr 103), .inl i]) rfl ?_
    refine jw_W_gf rfl rfl rfl ?_
    show jw_W (js_S n) _ md_326 16 [some (.inr (.inr 103)), some (.inl w), some (.inl ((jq_ch σ L i.toNat).1)), some (.inl ((jq_ch σ L i.toNat).2)), some (.inl i)] [.inl (τ 103 56), .inl i] τ _
    refine jw_W_ic rfl (by unfold jw_rg; omega) (by unfold jw_rg; omega) (fun hc1 => ?_) (fun hc1 => ?_)
    · have hc1 : i ≥ (τ 103 56) := hc1
      refine jw_W_n 1 (i' := 40) (ls' := [some (.inr (.inr 103)), some (.inl w), some (.inl ((jq_ch σ L i.toNat).1)), some (.inl ((jq_ch σ L i.toNat).2)), some (.inl i)]) (st' := [.inl w]) rfl ?_
      refine jw_W_if rfl (by unfold jw_rg; omega) (fun hc2 => ?_) (fun hc2 => ?_)
      · have hc2 : w ≠ 0 := hc2
        refine jw_W_n 1 (i' := 44) (ls' := [some (.inr (.inr 103)), some (.inl w), some (.inl ((jq_ch σ L i.toNat).1)), some (.inl ((jq_ch σ L i.toNat).2)), some (.inl i)]) (st' := [.inl ((jq_ch σ L i.toNat).2)]) rfl ?_
        refine jw_W_ir rfl ?_
        have hkl : i = σ 103 56 := by omega
        rw [← hkl]
        exact ⟨by rw [if_neg (by omega)], hf⟩
      · have hc2 : w = 0 := Classical.not_not.mp hc2
        refine jw_W_n 2 (i' := 44) (ls' := [some (.inr (.inr 103)), some (.inl w), some (.inl ((jq_ch σ L i.toNat).1)), some (.inl ((jq_ch σ L i.toNat).2)), some (.inl i)]) (st' := [.inl ((jq_ch σ L i.toNat).1)]) rfl ?_
        refine jw_W_ir rfl ?_
        have hkl : i = σ 103 56 := by omega
        rw [← hkl]
        exact ⟨by rw [if_pos (by omega)], hf⟩
    · have hc1 : ¬ (i ≥ (τ 103 56)) := hc1
      refine jw_W_n 2 (i' := 19) (ls' := [some (.inr (.inr 103)), some (.inl w), some (.inl ((jq_ch σ L i.toNat).1)), some (.inl ((jq_ch σ L i.toNat).2)), some (.inl i)]) (st' := [.inl i, .inr (.inr 103)]) rfl ?_
      refine jw_W_call (as := [.inr (.inr 103), .inl i]) (rest := []) rfl rfl rfl rfl (Nat.le_of_ble_eq_true rfl) (.inr rfl) (jq_factsOf hKNt (by omega) (by omega)) (by omega) ?_ rfl
      rintro r1 σ1 ⟨rfl, hf1, hr1⟩
      rename jw_H => σ1
      have hs1 : jq_fs σ σ1 := jq_fs_tr hf (fun o _ h2 => hf1 o h2)
      have hr1 : ∀ j, 0 ≤ j → j < 7 → σ1 120 j = jq_fa σ i j := fun j j0 j7 => (hr1 j j0 j7).trans (jq_fa_s hf i j)
      have e57 : σ1 103 57 = σ 103 57 := by rw [hs1 103 (by omega) (by omega)]
      have hL1 := jq_mc hL hs1
      show jw_W (js_S n) _ md_326 20 [some (.inr (.inr 103)), some (.inl w), some (.inl ((jq_ch σ L i.toNat).1)), some (.inl ((jq_ch σ L i.toNat).2)), some (.inl i)] [] σ1 _
      refine jw_W_n 1 (i' := 21) (ls' := [some (.inr (.inr 103)), some (.inl w), some (.inl ((jq_ch σ L i.toNat).1)), some (.inl ((jq_ch σ L i.toNat).2)), some (.inl i)]) (st' := [.inr (.inr 103)]) rfl ?_
      refine jw_W_gf rfl rfl rfl ?_
      show jw_W (js_S n) _ md_326 22 [some (.inr (.inr 103)), some (.inl w), some (.inl ((jq_ch σ L i.toNat).1)), some (.inl ((jq_ch σ L i.toNat).2)), some (.inl i)] [.inl (σ1 103 57)] σ1 _
      refine jw_W_n 1 (i' := 23) (ls' := [some (.inr (.inr 103)), some (.inl w), some (.inl ((jq_ch σ L i.toNat).1)), some (.inl ((jq_ch σ L i.toNat).2)), some (.inl i)]) (st' := [.inl i, .inl (σ1 103 57)]) rfl ?_
      refine jw_W_call (as := [.inl (σ1 103 57), .inl i]) (rest := []) rfl rfl rfl rfl (Nat.le_of_ble_eq_true rfl) (.inl rfl) (jm_has (by rw [e57]; omega) (by rw [e57]; omega) (by omega) (by omega)) (by omega) ?_ rfl
      rintro r1 σz (⟨rfl, hs, hg⟩ | ⟨rfl, hs, hg⟩)
      · rw [hs]
        rw [e57] at hg
        show jw_W (js_S n) _ md_326 24 [some (.inr (.inr 103)), some (.inl w), some (.inl ((jq_ch σ L i.toNat).1)), some (.inl ((jq_ch σ L i.toNat).2)), some (.inl i)] [.inl 1] σ1 _
        refine jw_W_if rfl (by unfold jw_rg; omega) (fun hc3 => ?_) (fun hc3 => ?_)
        · exact absurd hc3 (show ¬ ((1 : Int) = 0) by omega)
        · clear hc3
          refine jw_W_n 1 (i' := 26) (ls' := [some (.inr (.inr 103)), some (.inl w), some (.inl ((jq_ch σ L i.toNat).1)), some (.inl ((jq_ch σ L i.toNat).2)), some (.inl i)]) (st' := [.inr (.inr 103)]) rfl ?_
          refine jw_W_call (as := [.inr (.inr 103)]) (rest := []) rfl rfl rfl rfl (Nat.le_of_ble_eq_true rfl) (.inr rfl) (jl_isRefused hL1 (jq_fa_rg hKN i0 (by omega)) hr1) (by omega) ?_ rfl
          rintro r1 σ2 ⟨rfl, hk2⟩
          rename jw_H => σ2
          have hL2 := jl_mc_sk hL1 hk2
          have hr2 : ∀ j, 0 ≤ j → j < 7 → σ2 120 j = jq_fa σ i j := fun j j0 j7 => by rw [hk2 120 (by omega)]; exact hr1 j j0 j7
          have hs2 : jq_fs σ σ2 := jq_fs_tr hs1 (fun o h1 _ => hk2 o h1)
          show jw_W (js_S n) _ md_326 27 [some (.inr (.inr 103)), some (.inl w), some (.inl ((jq_ch σ L i.toNat).1)), some (.inl ((jq_ch σ L i.toNat).2)), some (.inl i)] [.inl (if (jl_do (jq_fa σ i) L (0, 0, 0)).2.1 = 1 then 1 else 0)] σ2 _
          by_cases hw9 : (jl_do (jq_fa σ i) L (0, 0, 0)).2.1 = 1
          · rw [if_pos hw9]
            show jw_W (js_S n) _ md_326 27 [some (.inr (.inr 103)), some (.inl w), some (.inl ((jq_ch σ L i.toNat).1)), some (.inl ((jq_ch σ L i.toNat).2)), some (.inl i)] [.inl 1] σ2 _
            refine jw_W_if rfl (by unfold jw_rg; omega) (fun hc14 => ?_) (fun hc14 => ?_)
            · clear hc14
              refine jw_W_n 2 (i' := 13) (ls' := [some (.inr (.inr 103)), some (.inl w), some (.inl ((jq_ch σ L i.toNat).1)), some (.inl ((jq_ch σ L i.toNat).2)), some (.inl (i + 1))]) (st' := []) rfl ?_
              exact stepn (fun z => z.2.1 hw9) (by omega) hs2
            · exact absurd hc14 (show ¬ ¬ ((1 : Int) ≠ 0) by omega)
          · rw [if_neg hw9]
            show jw_W (js_S n) _ md_326 27 [some (.inr (.inr 103)), some (.inl w), some (.inl ((jq_ch σ L i.toNat).1)), some (.inl ((jq_ch σ L i.toNat).2)), some (.inl i)] [.inl 0] σ2 _
            refine jw_W_if rfl (by unfold jw_rg; omega) (fun hc14 => ?_) (fun hc14 => ?_)
            · exact absurd hc14 (show ¬ ((0 : Int) ≠ 0) by omega)
            · clear hc14
              refine jw_W_n 1 (i' := 29) (ls' := [some (.inr (.inr 103)), some (.inl w), some (.inl ((jq_ch σ L i.toNat).1)), some (.inl ((jq_ch σ L i.toNat).2)), some (.inl i)]) (st' := [.inr (.inr 103)]) rfl ?_
              refine jw_W_call (as := [.inr (.inr 103)]) (rest := []) rfl rfl rfl rfl (Nat.le_of_ble_eq_true rfl) (.inr rfl) (jl_worth hL2 (jq_fa_rg hKN i0 (by omega)) hr2) (by omega) ?_ rfl
              rintro r1 σ3 ⟨rfl, hk3⟩
              rename jw_H => σ3
              have hL3 := jl_mc_sk hL2 hk3
              have hr3 : ∀ j, 0 ≤ j → j < 7 → σ3 120 j = jq_fa σ i j := fun j j0 j7 => by rw [hk3 120 (by omega)]; exact hr2 j j0 j7
              have hs3 : jq_fs σ σ3 := jq_fs_tr hs2 (fun o h1 _ => hk3 o h1)
              show jw_W (js_S n) _ md_326 30 [some (.inr (.inr 103)), some (.inl w), some (.inl ((jq_ch σ L i.toNat).1)), some (.inl ((jq_ch σ L i.toNat).2)), some (.inl i)] [.inl ((jl_do (jq_fa σ i) L (0, 0, 0)).1)] σ3 _
              refine jw_W_n 1 (i' := 31) (ls' := [some (.inr (.inr 103)), some (.inl w), some (.inl ((jq_ch σ L i.toNat).1)), some (.inl ((jq_ch σ L i.toNat).2)), some (.inl i)]) (st' := [.inl ((jq_ch σ L i.toNat).2), .inl ((jl_do (jq_fa σ i) L (0, 0, 0)).1)]) rfl ?_
              refine jw_W_ic rfl (by unfold jw_rg; omega) (by unfold jw_rg; omega) (fun hc15 => ?_) (fun hc15 => ?_)
              · have hc15 : ((jl_do (jq_fa σ i) L (0, 0, 0)).1) ≤ ((jq_ch σ L i.toNat).2) := hc15
                refine jw_W_n 2 (i' := 13) (ls' := [some (.inr (.inr 103)), some (.inl w), some (.inl ((jq_ch σ L i.toNat).1)), some (.inl ((jq_ch σ L i.toNat).2)), some (.inl (i + 1))]) (st' := []) rfl ?_
                exact stepn (fun z => by have := z.2.2; omega) (by omega) hs3
              · have hc15 : ¬ (((jl_do (jq_fa σ i) L (0, 0, 0)).1) ≤ ((jq_ch σ L i.toNat).2)) := hc15
                refine jw_W_n 1 (i' := 33) (ls' := [some (.inr (.inr 103)), some (.inl w), some (.inl ((jq_ch σ L i.toNat).1)), some (.inl ((jq_ch σ L i.toNat).2)), some (.inl i)]) (st' := [.inr (.inr 103)]) rfl ?_
                refine jw_W_call (as := [.inr (.inr 103)]) (rest := []) rfl rfl rfl rfl (Nat.le_of_ble_eq_true rfl) (.inr rfl) (jl_worth hL3 (jq_fa_rg hKN i0 (by omega)) hr3) (by omega) ?_ rfl
                rintro r1 σ4 ⟨rfl, hk4⟩
                rename jw_H => σ4
                have hs4 : jq_fs σ σ4 := jq_fs_tr hs3 (fun o h1 _ => hk4 o h1)
                show jw_W (js_S n) _ md_326 34 [some (.inr (.inr 103)), some (.inl w), some (.inl ((jq_ch σ L i.toNat).1)), some (.inl ((jq_ch σ L i.toNat).2)), some (.inl i)] [.inl ((jl_do (jq_fa σ i) L (0, 0, 0)).1)] σ4 _
                refine jw_W_n 5 (i' := 13) (ls' := [some (.inr (.inr 103)), some (.inl w), some (.inl i), some (.inl ((jl_do (jq_fa σ i) L (0, 0, 0)).1)), some (.inl (i + 1))]) (st' := []) rfl ?_
                exact stepy hg hw9 (by omega) (by omega) hs4
      · rw [hs]
        rw [e57] at hg
        show jw_W (js_S n) _ md_326 24 [some (.inr (.inr 103)), some (.inl w), some (.inl ((jq_ch σ L i.toNat).1)), some (.inl ((jq_ch σ L i.toNat).2)), some (.inl i)] [.inl 0] σ1 _
        refine jw_W_if rfl (by unfold jw_rg; omega) (fun hc4 => ?_) (fun hc4 => ?_)
        · clear hc4
          refine jw_W_n 2 (i' := 13) (ls' := [some (.inr (.inr 103)), some (.inl w), some (.inl ((jq_ch σ L i.toNat).1)), some (.inl ((jq_ch σ L i.toNat).2)), some (.inl (i + 1))]) (st' := []) rfl ?_
          exact stepn (fun z => hg z.1) (by omega) hs1
        · exact absurd hc4 (show ¬ ¬ ((0 : Int) = 0) by omega)
theorem jq_chosenR {n : Nat} {σ : jw_H} {C : List (ge_R × Int)} (hKN : jm_KN σ C) {L : List jl_Q} (hL : jl_mc σ L) {w : Int} (hw : jw_rg w)  : jw_T (js_S n) 5 326 [.inr (.inr 103), .inl w] σ (fun r σ' => r = some (.inl (jq_cha σ L w)) ∧ jm_fz σ σ') := by
  refine jw_T_of (D := 4) (M := mm_326) rfl (Nat.le_of_ble_eq_true rfl) (ls0 := [some (.inr (.inr 103)), some (.inl w), none, none, none]) rfl ?_ (by rintro _ _ ⟨rfl, -⟩; rfl)
  have rhw := hw
  unfold jw_rg at rhw
  have hcn := ((jm_kw_cbd hKN.1).2 σ (jm_fk_rf σ)).1
  refine jw_W_n 3 (i' := 3) (ls' := [some (.inr (.inr 103)), some (.inl w), none, none, none]) (st' := [.inl 1, .inl 0, .inl w]) rfl ?_
  refine jw_W_call (as := [.inl w, .inl 0, .inl 1]) (rest := []) rfl rfl rfl rfl (Nat.le_of_ble_eq_true rfl) (.inl rfl) (jm_in (by unfold jw_rg; omega) (by unfold jw_rg; omega) (by unfold jw_rg; omega)) (by omega) ?_ rfl
  rintro r1 σz (⟨rfl, hs, hin⟩ | ⟨rfl, hs, hin⟩)
  · rw [hs]
    show jw_W (js_S n) _ md_326 4 [some (.inr (.inr 103)), some (.inl w), none, none, none] [.inl 1] σ _
    refine jw_W_if rfl (by unfold jw_rg; omega) (fun hc1 => ?_) (fun hc1 => ?_)
    · clear hc1
      refine jw_W_ldw (z := (-100000)) rfl rfl ?_
      refine jw_W_n 1 (i' := 9) (ls' := [some (.inr (.inr 103)), some (.inl w), some (.inl ((-100000))), none, none]) (st' := []) rfl ?_
      refine jw_W_ldw (z := (-100000)) rfl rfl ?_
      refine jw_W_n 3 (i' := 13) (ls' := [some (.inr (.inr 103)), some (.inl w), some (.inl ((-100000))), some (.inl ((-100000))), some (.inl 0)]) (st' := []) rfl ?_
      refine jw_W_mono (jq_ch_loop hKN hL (w := w) (by omega) (σ 103 56).toNat (i := 0) (by omega) (by omega) (fun _ _ _ => rfl)) ?_
      rintro r σ' ⟨rfl, hf⟩
      refine ⟨?_, jq_fs_z hKN hf⟩
      unfold jq_cha
      by_cases h0 : w = 0
      · rw [if_pos h0, if_pos h0]
      · rw [if_neg h0, if_neg h0, if_pos (by omega)]
    · exact absurd hc1 (show ¬ ¬ ((1 : Int) ≠ 0) by omega)
  · rw [hs]
    show jw_W (js_S n) _ md_326 4 [some (.inr (.inr 103)), some (.inl w), none, none, none] [.inl 0] σ _
    refine jw_W_if rfl (by unfold jw_rg; omega) (fun hc2 => ?_) (fun hc2 => ?_)
    · exact absurd hc2 (show ¬ ((0 : Int) ≠ 0) by omega)
    · clear hc2
      refine jw_W_ldw (z := (-100001)) rfl rfl ?_
      refine jw_W_ir rfl ?_
      exact ⟨by unfold jq_cha; rw [if_neg (by omega), if_neg (by omega)], jm_fz_rf hKN⟩

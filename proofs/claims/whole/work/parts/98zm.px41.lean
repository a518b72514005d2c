/-! ===== best: class and reference ===== -/
/-- what is known once weights are taken -/
theorem jm_w142_all {σ σ1 : jw_H} {C : List (ge_R × Int)} {a b c : Int} (hKN : jm_KN σ C) (hf : jm_w142 σ σ1 a b c) (hw : jm_wok a b c) : jm_KN σ1 C ∧ jm_fz σ σ1 ∧ (∀ k, 0 ≤ k → k < 3 → 0 ≤ σ1 142 k ∧ σ1 142 k ≤ 9) ∧ jm_gk σ1 (σ1 142) (σ1 103 4).toNat = jm_gd3 σ a b c ∧ jm_ct σ1 = jm_ct σ ∧ σ1 103 = σ 103 ∧ σ1 135 = σ 135 :=
  ⟨jm_KN_fz (jm_w142_z hKN hf) hKN, jm_w142_z hKN hf, fun k k0 k1 => by rw [jm_w142_k hf k0 k1]; exact jm_wgt_ok hw, jm_w142_gd hKN.1.1 hf, funext fun i => jm_w142_ct hf i, hf.1 103 (by omega), hf.1 135 (by omega)⟩
theorem jm_best {n : Nat} {σ : jw_H} {C : List (ge_R × Int)} (hKN : jm_KN σ C) {a b2 c t : Int} (ra : jw_rg a) (rb : jw_rg b2) (rc : jw_rg c) (ht : jw_rg t) : jw_T (js_S n) 7 297 [.inr (.inr 103), .inl a, .inl b2, .inl c, .inl t] σ (fun r σ' => ∃ v, r = some (.inr (.inl v)) ∧ jm_fz σ σ' ∧ jm_bsa σ a b2 c t v) := by
  refine jw_T_of (D := 6) (M := mm_297) rfl (Nat.le_of_ble_eq_true rfl) (ls0 := [some (.inr (.inr 103)), some (.inl a), some (.inl b2), some (.inl c), some (.inl t), none]) rfl ?_ (by rintro _ _ ⟨_, rfl, -⟩; rfl)
  have hcb := (jm_kw_cbd hKN.1).2 σ (jm_fk_rf σ)
  have hcn := hcb.1
  have hPm := hKN.1.1
  have hqq := hPm.1
  have hww := hPm.2.1
  have hkk := hPm.2.2.1
  have hg57 := hKN.2.2.1.1
  have hg58 := hKN.2.2.2.1.1
  have rht := ht
  unfold jw_rg at rht
  refine jw_W_n 4 (i' := 4) (ls' := [some (.inr (.inr 103)), some (.inl a), some (.inl b2), some (.inl c), some (.inl t), none]) (st' := [.inl c, .inl b2, .inl a, .inr (.inr 103)]) rfl ?_
  refine jw_W_call (as := [.inr (.inr 103), .inl a, .inl b2, .inl c]) (rest := []) rfl rfl rfl rfl (Nat.le_of_ble_eq_true rfl) (.inr rfl) (jm_takesW ra rb rc) (by omega) ?_ rfl
  rintro r1 σ1 ⟨v, rfl, hf, hv⟩
  have hv01 : v = 0 ∨ v = 1 := by rcases hv with ⟨e, -⟩ | ⟨e, -⟩ <;> omega
  have hz := jm_w142_z hKN hf
  have e103 := hf.1 103 (by omega)
  have e56 : σ1 103 56 = σ 103 56 := by rw [e103]
  show jw_W (js_S n) _ md_297 5 [some (.inr (.inr 103)), some (.inl a), some (.inl b2), some (.inl c), some (.inl t), none] [.inl v] σ1 _
  refine jw_W_if rfl (by unfold jw_rg; omega) (fun hc1 => ?_) (fun hc1 => ?_)
  · have hc1 : v = 0 := hc1
    refine jw_W_ld2 (z := (-100000000)) rfl rfl ?_
    refine jw_W_lr rfl ?_
    refine ⟨_, rfl, hz, .inl ⟨rfl, fun hh => ?_⟩⟩
    obtain ⟨g1, g2, g3⟩ := hh
    rcases hv with ⟨e, -⟩ | ⟨-, hv⟩
    · omega
    · exact hv g1
  · have hc1 : ¬ (v = 0) := hc1
    refine jw_W_n 3 (i' := 9) (ls' := [some (.inr (.inr 103)), some (.inl a), some (.inl b2), some (.inl c), some (.inl t), none]) (st' := [.inl 2, .inl 0, .inl t]) rfl ?_
    refine jw_W_call (as := [.inl t, .inl 0, .inl 2]) (rest := []) rfl rfl rfl rfl (Nat.le_of_ble_eq_true rfl) (.inl rfl) (jm_in (by unfold jw_rg; omega) (by unfold jw_rg; omega) (by unfold jw_rg; omega)) (by omega) ?_ rfl
    rintro r1 σz (⟨rfl, hs, q1⟩ | ⟨rfl, hs, q1⟩)
    · rw [hs]
      show jw_W (js_S n) _ md_297 10 [some (.inr (.inr 103)), some (.inl a), some (.inl b2), some (.inl c), some (.inl t), none] [.inl 1] σ1 _
      refine jw_W_if rfl (by unfold jw_rg; omega) (fun hc2 => ?_) (fun hc2 => ?_)
      · exact absurd hc2 (show ¬ ((1 : Int) = 0) by omega)
      · clear hc2
        refine jw_W_n 1 (i' := 12) (ls' := [some (.inr (.inr 103)), some (.inl a), some (.inl b2), some (.inl c), some (.inl t), none]) (st' := [.inr (.inr 103)]) rfl ?_
        refine jw_W_gf rfl rfl rfl ?_
        show jw_W (js_S n) _ md_297 13 [some (.inr (.inr 103)), some (.inl a), some (.inl b2), some (.inl c), some (.inl t), none] [.inl (σ1 103 56)] σ1 _
        refine jw_W_if rfl (by unfold jw_rg; omega) (fun hc3 => ?_) (fun hc3 => ?_)
        · have hc3 : (σ1 103 56) ≠ 0 := hc3
          have hwk := (hv.resolve_right (fun hh => by omega)).2
          obtain ⟨hKN1, -, hw3, eg, ec, -, e135⟩ := jm_w142_all hKN hf hwk
          refine jw_W_n 1 (i' := 17) (ls' := [some (.inr (.inr 103)), some (.inl a), some (.inl b2), some (.inl c), some (.inl t), none]) (st' := [.inr (.inr 103)]) rfl ?_
          refine jw_W_call (as := [.inr (.inr 103)]) (rest := []) rfl rfl rfl rfl (Nat.le_of_ble_eq_true rfl) (.inr rfl) (jm_bestC hKN1 hw3 (by omega)) (by omega) ?_ rfl
          rintro r1 σz ⟨b, rfl, hs, hb⟩
          rw [hs]
          rw [eg, ec, e56] at hb
          have hb1 := jx_fst_in (by omega) hb
          show jw_W (js_S n) _ md_297 18 [some (.inr (.inr 103)), some (.inl a), some (.inl b2), some (.inl c), some (.inl t), none] [.inl b] σ1 _
          refine jw_W_n 3 (i' := 21) (ls' := [some (.inr (.inr 103)), some (.inl a), some (.inl b2), some (.inl c), some (.inl t), some (.inl b)]) (st' := [.inl 2, .inl t]) rfl ?_
          refine jw_W_ic rfl (by unfold jw_rg; omega) (by unfold jw_rg; omega) (fun hc4 => ?_) (fun hc4 => ?_)
          · have hc4 : t ≠ 2 := hc4
            refine jw_W_n 2 (i' := 27) (ls' := [some (.inr (.inr 103)), some (.inl a), some (.inl b2), some (.inl c), some (.inl t), some (.inl b)]) (st' := [.inl b, .inr (.inr 103)]) rfl ?_
            refine jw_W_call (as := [.inr (.inr 103), .inl b]) (rest := []) rfl rfl rfl rfl (Nat.le_of_ble_eq_true rfl) (.inr rfl) (jm_weighedOf hKN1 hw3 (by omega) (by omega)) (by omega) ?_ rfl
            rintro r1 σz ⟨rfl, hs⟩
            rw [hs, eg, ec]
            have f1 := jx_f_bd (jm_gd3_Gb hPm hwk) (jx_ct_bd hcb hb1.1 hb1.2)
            have c1 := jm_cw hcb hb1.1 hb1.2
            have c2 : σ 135 b ≤ 162 := (hcb.2 b hb1.1 hb1.2).2
            have e135b : σ1 135 b = σ 135 b := by rw [e135]
            show jw_W (js_S n) _ md_297 28 [some (.inr (.inr 103)), some (.inl a), some (.inl b2), some (.inl c), some (.inl t), some (.inl b)] [.inr (.inl (ge_f (jm_gd3 σ a b2 c) (jm_ct σ b)))] σ1 _
            refine jw_W_n 1 (i' := 29) (ls' := [some (.inr (.inr 103)), some (.inl a), some (.inl b2), some (.inl c), some (.inl t), some (.inl b)]) (st' := [.inr (.inr 103), .inr (.inl (ge_f (jm_gd3 σ a b2 c) (jm_ct σ b)))]) rfl ?_
            refine jw_W_gf rfl rfl rfl ?_
            show jw_W (js_S n) _ md_297 30 [some (.inr (.inr 103)), some (.inl a), some (.inl b2), some (.inl c), some (.inl t), some (.inl b)] [.inr (.inr 135), .inr (.inl (ge_f (jm_gd3 σ a b2 c) (jm_ct σ b)))] σ1 _
            refine jw_W_n 1 (i' := 31) (ls' := [some (.inr (.inr 103)), some (.inl a), some (.inl b2), some (.inl c), some (.inl t), some (.inl b)]) (st' := [.inl b, .inr (.inr 135), .inr (.inl (ge_f (jm_gd3 σ a b2 c) (jm_ct σ b)))]) rfl ?_
            refine jw_W_la rfl rfl (by omega) (by omega) (by omega) ?_
            show jw_W (js_S n) _ md_297 32 [some (.inr (.inr 103)), some (.inl a), some (.inl b2), some (.inl c), some (.inl t), some (.inl b)] [.inr (.inl (σ1 135 b)), .inr (.inl (ge_f (jm_gd3 σ a b2 c) (jm_ct σ b)))] σ1 _
            refine jw_W_n 1 (i' := 33) (ls' := [some (.inr (.inr 103)), some (.inl a), some (.inl b2), some (.inl c), some (.inl t), some (.inl b)]) (st' := [.inl t, .inr (.inl (σ1 135 b)), .inr (.inl (ge_f (jm_gd3 σ a b2 c) (jm_ct σ b)))]) rfl ?_
            refine jw_W_call (as := [.inr (.inl (ge_f (jm_gd3 σ a b2 c) (jm_ct σ b))), .inr (.inl (σ1 135 b)), .inl t]) (rest := []) rfl rfl rfl rfl (Nat.le_of_ble_eq_true rfl) (.inl rfl) (jm_ofFr (by unfold jm_bg; omega) (by omega) (by omega) (by unfold jw_rg; omega)) (by omega) ?_ rfl
            rintro r1 σz ⟨rfl, hs⟩
            rw [hs]
            show jw_W (js_S n) _ md_297 34 [some (.inr (.inr 103)), some (.inl a), some (.inl b2), some (.inl c), some (.inl t), some (.inl b)] [.inr (.inl (jm_of (ge_f (jm_gd3 σ a b2 c) (jm_ct σ b)) (σ1 135 b) t))] σ1 _
            refine jw_W_lr rfl ?_
            exact ⟨_, rfl, hz, .inr ⟨⟨hwk, by omega, by omega⟩, b, hb, .inr ⟨by omega, by rw [e135b]⟩⟩⟩
          · have hc4 : t = 2 := Classical.not_not.mp hc4
            refine jw_W_n 1 (i' := 23) (ls' := [some (.inr (.inr 103)), some (.inl a), some (.inl b2), some (.inl c), some (.inl t), some (.inl b)]) (st' := [.inl b]) rfl ?_
            refine jw_W_i2l rfl (by unfold jw_rg; omega) ?_
            refine jw_W_n 1 (i' := 34) (ls' := [some (.inr (.inr 103)), some (.inl a), some (.inl b2), some (.inl c), some (.inl t), some (.inl b)]) (st' := [.inr (.inl b)]) rfl ?_
            refine jw_W_lr rfl ?_
            exact ⟨_, rfl, hz, .inr ⟨⟨hwk, by omega, by omega⟩, b, hb, .inl ⟨by omega, rfl⟩⟩⟩
        · have hc3 : (σ1 103 56) = 0 := Classical.not_not.mp hc3
          refine jw_W_ld2 (z := (-100000000)) rfl rfl ?_
          refine jw_W_lr rfl ?_
          refine ⟨_, rfl, hz, .inl ⟨rfl, fun hh => ?_⟩⟩
          obtain ⟨g1, g2, g3⟩ := hh
          rcases hv with ⟨e, -⟩ | ⟨-, hv⟩
          · omega
          · exact hv g1
    · rw [hs]
      show jw_W (js_S n) _ md_297 10 [some (.inr (.inr 103)), some (.inl a), some (.inl b2), some (.inl c), some (.inl t), none] [.inl 0] σ1 _
      refine jw_W_if rfl (by unfold jw_rg; omega) (fun hc5 => ?_) (fun hc5 => ?_)
      · clear hc5
        refine jw_W_ld2 (z := (-100000000)) rfl rfl ?_
        refine jw_W_lr rfl ?_
        refine ⟨_, rfl, hz, .inl ⟨rfl, fun hh => ?_⟩⟩
        obtain ⟨g1, g2, g3⟩ := hh
        rcases hv with ⟨e, -⟩ | ⟨-, hv⟩
        · omega
        · exact hv g1
      · exact absurd hc5 (show ¬ ¬ ((0 : Int) = 0) by omega)
theorem jx_isWeight {n : Nat} {σ : jw_H} {o : Nat} {C : List (ge_R × Int)} (hK : jx_K n o C σ) {a : Int} (ha : jw_rg a) : jw_T (js_S n) 1 172 [.inr (.inr 13), .inl a] σ (fun r σ' => (r = some (.inl 1) ∧ σ' = σ ∧ (0 ≤ a ∧ a ≤ 9)) ∨ (r = some (.inl 0) ∧ σ' = σ ∧ ¬ (0 ≤ a ∧ a ≤ 9))) := by
  refine jw_T_of (D := 0) (M := mm_172) rfl (Nat.le_of_ble_eq_true rfl) (ls0 := [some (.inr (.inr 13)), some (.inl a)]) rfl ?_ (by rintro _ _ (⟨rfl, -⟩ | ⟨rfl, -⟩) <;> rfl)
  have hI := hK.1
  obtain ⟨hto, hfo, hp, hP, e0, e1, e2, hPm, hcb, c0, p0, -⟩ := jx_I0_x hI
  have ho := hp.1
  have hq := hP.1
  have hw := hP.2.1
  have hq2 := hP.2.2.1
  have hcn := hcb.1
  have rha := ha
  unfold jw_rg at rha
  refine jw_W_n 1 (i' := 1) (ls' := [some (.inr (.inr 13)), some (.inl a)]) (st' := [.inl a]) rfl ?_
  refine jw_W_if rfl (by unfold jw_rg; omega) (fun hc1 => ?_) (fun hc1 => ?_)
  · have hc1 : a < 0 := hc1
    refine jw_W_n 1 (i' := 8) (ls' := [some (.inr (.inr 13)), some (.inl a)]) (st' := [.inl 0]) rfl ?_
    refine jw_W_ir rfl ?_
    exact .inr ⟨rfl, rfl, by omega⟩
  · have hc1 : ¬ (a < 0) := hc1
    refine jw_W_n 2 (i' := 4) (ls' := [some (.inr (.inr 13)), some (.inl a)]) (st' := [.inl 9, .inl a]) rfl ?_
    refine jw_W_ic rfl (by unfold jw_rg; omega) (by unfold jw_rg; omega) (fun hc2 => ?_) (fun hc2 => ?_)
    · have hc2 : a > 9 := hc2
      refine jw_W_n 1 (i' := 8) (ls' := [some (.inr (.inr 13)), some (.inl a)]) (st' := [.inl 0]) rfl ?_
      refine jw_W_ir rfl ?_
      exact .inr ⟨rfl, rfl, by omega⟩
    · have hc2 : ¬ (a > 9) := hc2
      refine jw_W_n 2 (i' := 8) (ls' := [some (.inr (.inr 13)), some (.inl a)]) (st' := [.inl 1]) rfl ?_
      refine jw_W_ir rfl ?_
      exact .inl ⟨rfl, rfl, by omega⟩
theorem jx_areWeights {n : Nat} {σ : jw_H} {o : Nat} {C : List (ge_R × Int)} (hK : jx_K n o C σ) {a b c : Int} (r_a : jw_rg a) (r_b : jw_rg b) (r_c : jw_rg c) : jw_T (js_S n) 2 171 [.inr (.inr 13), .inl a, .inl b, .inl c] σ (fun r σ' => (r = some (.inl 1) ∧ σ' = σ ∧ (jm_wok a b c)) ∨ (r = some (.inl 0) ∧ σ' = σ ∧ ¬ (jm_wok a b c))) := by
  refine jw_T_of (D := 1) (M := mm_171) rfl (Nat.le_of_ble_eq_true rfl) (ls0 := [some (.inr (.inr 13)), some (.inl a), some (.inl b), some (.inl c)]) rfl ?_ (by rintro _ _ (⟨rfl, -⟩ | ⟨rfl, -⟩) <;> rfl)
  have hI := hK.1
  obtain ⟨hto, hfo, hp, hP, e0, e1, e2, hPm, hcb, c0, p0, -⟩ := jx_I0_x hI
  have ho := hp.1
  have hq := hP.1
  have hw := hP.2.1
  have hq2 := hP.2.2.1
  have hcn := hcb.1
  refine jw_W_n 2 (i' := 2) (ls' := [some (.inr (.inr 13)), some (.inl a), some (.inl b), some (.inl c)]) (st' := [.inl a, .inr (.inr 13)]) rfl ?_
  refine jw_W_call (as := [.inr (.inr 13), .inl a]) (rest := []) rfl rfl rfl rfl (Nat.le_of_ble_eq_true rfl) (.inr rfl) (jx_isWeight hK r_a) (by omega) ?_ rfl
  rintro r1 σz (⟨rfl, hs, q2⟩ | ⟨rfl, hs, q2⟩)
  · rw [hs]
    show jw_W (js_S n) _ md_171 3 [some (.inr (.inr 13)), some (.inl a), some (.inl b), some (.inl c)] [.inl 1] σ _
    refine jw_W_if rfl (by unfold jw_rg; omega) (fun hc1 => ?_) (fun hc1 => ?_)
    · exact absurd hc1 (show ¬ ((1 : Int) = 0) by omega)
    · clear hc1
      refine jw_W_n 2 (i' := 6) (ls' := [some (.inr (.inr 13)), some (.inl a), some (.inl b), some (.inl c)]) (st' := [.inl b, .inr (.inr 13)]) rfl ?_
      refine jw_W_call (as := [.inr (.inr 13), .inl b]) (rest := []) rfl rfl rfl rfl (Nat.le_of_ble_eq_true rfl) (.inr rfl) (jx_isWeight hK r_b) (by omega) ?_ rfl
      rintro r1 σz (⟨rfl, hs, q3⟩ | ⟨rfl, hs, q3⟩)
      · rw [hs]
        show jw_W (js_S n) _ md_171 7 [some (.inr (.inr 13)), some (.inl a), some (.inl b), some (.inl c)] [.inl 1] σ _
        refine jw_W_if rfl (by unfold jw_rg; omega) (fun hc2 => ?_) (fun hc2 => ?_)
        · exact absurd hc2 (show ¬ ((1 : Int) = 0) by omega)
        · clear hc2
          refine jw_W_n 2 (i' := 10) (ls' := [some (.inr (.inr 13)), some (.inl a), some (.inl b), some (.inl c)]) (st' := [.inl c, .inr (.inr 13)]) rfl ?_
          refine jw_W_call (as := [.inr (.inr 13), .inl c]) (rest := []) rfl rfl rfl rfl (Nat.le_of_ble_eq_true rfl) (.inr rfl) (jx_isWeight hK r_c) (by omega) ?_ rfl
          rintro r1 σz (⟨rfl, hs, q4⟩ | ⟨rfl, hs, q4⟩)
          · rw [hs]
            show jw_W (js_S n) _ md_171 11 [some (.inr (.inr 13)), some (.inl a), some (.inl b), some (.inl c)] [.inl 1] σ _
            refine jw_W_if rfl (by unfold jw_rg; omega) (fun hc3 => ?_) (fun hc3 => ?_)
            · exact absurd hc3 (show ¬ ((1 : Int) = 0) by omega)
            · clear hc3
              refine jw_W_n 2 (i' := 15) (ls' := [some (.inr (.inr 13)), some (.inl a), some (.inl b), some (.inl c)]) (st' := [.inl 1]) rfl ?_
              refine jw_W_ir rfl ?_
              exact .inl ⟨rfl, rfl, by unfold jm_wok; omega⟩
          · rw [hs]
            show jw_W (js_S n) _ md_171 11 [some (.inr (.inr 13)), some (.inl a), some (.inl b), some (.inl c)] [.inl 0] σ _
            refine jw_W_if rfl (by unfold jw_rg; omega) (fun hc4 => ?_) (fun hc4 => ?_)
            · clear hc4
              refine jw_W_n 1 (i' := 15) (ls' := [some (.inr (.inr 13)), some (.inl a), some (.inl b), some (.inl c)]) (st' := [.inl 0]) rfl ?_
              refine jw_W_ir rfl ?_
              exact .inr ⟨rfl, rfl, by unfold jm_wok; omega⟩
            · exact absurd hc4 (show ¬ ¬ ((0 : Int) = 0) by omega)
      · rw [hs]
        show jw_W (js_S n) _ md_171 7 [some (.inr (.inr 13)), some (.inl a), some (.inl b), some (.inl c)] [.inl 0] σ _
        refine jw_W_if rfl (by unfold jw_rg; omega) (fun hc5 => ?_) (fun hc5 => ?_)
        · clear hc5
          refine jw_W_n 1 (i' := 15) (ls' := [some (.inr (.inr 13)), some (.inl a), some (.inl b), some (.inl c)]) (st' := [.inl 0]) rfl ?_
          refine jw_W_ir rfl ?_
          exact .inr ⟨rfl, rfl, by unfold jm_wok; omega⟩
        · exact absurd hc5 (show ¬ ¬ ((0 : Int) = 0) by omega)
  · rw [hs]
    show jw_W (js_S n) _ md_171 3 [some (.inr (.inr 13)), some (.inl a), some (.inl b), some (.inl c)] [.inl 0] σ _
    refine jw_W_if rfl (by unfold jw_rg; omega) (fun hc6 => ?_) (fun hc6 => ?_)
    · clear hc6
      refine jw_W_n 1 (i' := 15) (ls' := [some (.inr (.inr 13)), some (.inl a), some (.inl b), some (.inl c)]) (st' := [.inl 0]) rfl ?_
      refine jw_W_ir rfl ?_
      exact .inr ⟨rfl, rfl, by unfold jm_wok; omega⟩
    · exact absurd hc6 (show ¬ ¬ ((0 : Int) = 0) by omega)
/-- a number of a sum -/
def jm_gc (d : ge_D) (t : Int) : Int := if t = 0 then d.1 else if t = 1 then d.2.1 else d.2.2
theorem jm_gc_s {σ : jw_H} {w : Int → Int} {k t : Int} (k0 : 0 ≤ k) (t0 : 0 ≤ t) (t1 : t < 3) : jm_gc (jm_gk σ w (k + 1).toNat) t = jm_gc (jm_gk σ w k.toNat) t + w k * σ 104 (3 * k + t) := by
  rw [show (k + 1).toNat = k.toNat + 1 by omega]
  unfold jm_gc
  rcases (show t = 0 ∨ t = 1 ∨ t = 2 by omega) with rfl | rfl | rfl
  · rw [if_pos rfl, if_pos rfl]
    conv => lhs; unfold jm_gk
    rw [Int.toNat_of_nonneg k0, Int.add_zero]
  · rw [if_neg (by decide), if_pos rfl, if_neg (by decide), if_pos rfl]
    conv => lhs; unfold jm_gk
    rw [Int.toNat_of_nonneg k0]
  · rw [if_neg (by decide), if_neg (by decide), if_neg (by decide), if_neg (by decide)]
    conv => lhs; unfold jm_gk
    rw [Int.toNat_of_nonneg k0]
theorem jm_gc_bd {σ : jw_H} {w : Int → Int} (hP : jm_Pb σ) {k : Int} (k0 : 0 ≤ k) (k1 : k ≤ σ 103 4) (hw : ∀ c : Int, 0 ≤ c → c < k → 0 ≤ w c ∧ w c ≤ 9) (t : Int) : -100 ≤ jm_gc (jm_gk σ w k.toNat) t ∧ jm_gc (jm_gk σ w k.toNat) t ≤ 100 := by
  have h4 := hP.2.1
  have h := jm_gk_bd hP (w := w) (m := k.toNat) (by omega) (fun c c0 c1 => hw c c0 (by omega))
  unfold jm_gc
  split
  · omega
  · split <;> omega
theorem jx_tk {n : Nat} {σ : jw_H} {o : Nat} {C : List (ge_R × Int)} (h : jx_I0 n σ o C) {k t : Int} (k0 : 0 ≤ k) (k1 : k < σ 103 4) (t0 : 0 ≤ t) (t1 : t < 3) : σ (o + 1) (3 * k + t) = σ 104 (3 * k + t) ∧ -3 ≤ σ 104 (3 * k + t) ∧ σ 104 (3 * k + t) ≤ 3 := by
  have hP := (jx_I0_x h).2.2.2.2.2.2.2.1
  have h1 := (jx_I0_W h k0 k1).1
  have h2 := jm_W_sm hP k0 k1
  unfold jm_W at h2 h1
  unfold jx_G at h1
  have e1 := congrArg (fun d : ge_D => d.1) h1
  have e2 := congrArg (fun d : ge_D => d.2.1) h1
  have e3 := congrArg (fun d : ge_D => d.2.2) h1
  dsimp only at *
  rcases (show t = 0 ∨ t = 1 ∨ t = 2 by omega) with rfl | rfl | rfl
  · rw [Int.add_zero]
    exact ⟨e1, h2.1⟩
  · exact ⟨e2, h2.2.1⟩
  · exact ⟨e3, h2.2.2⟩
/-- the goal, laid so far -/
def jx_gl (σ0 : jw_H) (w : Int → Int) (t : Int) (σ : jw_H) : Prop := (∀ c, c ≠ 100 → σ c = σ0 c) ∧ ∀ s, 0 ≤ s → s < t → σ 100 s = jm_gc (jm_gk σ0 w (σ0 103 4).toNat) s
theorem jx_gl_y {σ0 σ : jw_H} {w : Int → Int} {t : Int} (h : jx_gl σ0 w t σ) : jx_fy σ0 σ := ⟨fun c _ h2 => h.1 c (by omega), fun j _ => by rw [h.1 13 (by omega)]⟩
theorem jx_gl_G {σ0 σ : jw_H} {w : Int → Int} (h : jx_gl σ0 w 3 σ) : jx_G σ 100 0 = jm_gk σ0 w (σ0 103 4).toNat := by
  have h0 := h.2 0 (by omega) (by omega)
  have h1 := h.2 1 (by omega) (by omega)
  have h2 := h.2 2 (by omega) (by omega)
  unfold jm_gc at h0 h1 h2
  rw [if_pos rfl] at h0
  rw [if_neg (by decide), if_pos rfl] at h1
  rw [if_neg (by decide), if_neg (by decide)] at h2
  exact Prod.ext h0 (Prod.ext h1 h2)
theorem jx_aim_k {n : Nat} {σ0 : jw_H} {o : Nat} {C : List (ge_R × Int)} {D : Nat} {Q : Option jw_V → jw_H → Prop} (hK0 : jx_K n o C σ0) {a b c t : Int} (hwk : jm_wok a b c) (t0 : 0 ≤ t) (t1 : t < 3) (hQ : ∀ {σ : jw_H} {v : Option jw_V}, jx_gl σ0 (jm_wgt a b c) t σ → σ 100 t = jm_gc (jm_gk σ0 (jm_wgt a b c) (σ0 103 4).toNat) t → jw_W (js_S n) D md_173 48 [some (.inr (.inr 13)), some (.inl a), some (.inl b), some (.inl c), some (.inl t), some (.inl (σ0 103 4)), v] [] σ Q) : ∀ (f : Nat) {σ : jw_H} {k : Int} {v : Option jw_V}, 0 ≤ k → k + f = σ0 103 4 → jx_gl σ0 (jm_wgt a b c) t σ → σ 100 t = jm_gc (jm_gk σ0 (jm_wgt a b c) (k).toNat) t → jw_W (js_S n) D md_173 12 [some (.inr (.inr 13)), some (.inl a), some (.inl b), some (.inl c), some (.inl t), some (.inl k), v] [] σ Q
  | f, σ, k, v, k0, hk, HZ, HS => by
    have ih : ∀ {σ' : jw_H} {v' : Option jw_V}, k < σ0 103 4 → jx_gl σ0 (jm_wgt a b c) t σ' → σ' 100 t = jm_gc (jm_gk σ0 (jm_wgt a b c) (k + 1).toNat) t → jw_W (js_S n) D md_173 12 [some (.inr (.inr 13)), some (.inl a), some (.inl b), some (.inl c), some (.inl t), some (.inl (k + 1)), v'] [] σ' Q := by
      intro σ' v' h1 h2 h3
      match f, hk with
      | 0, hk => omega
      | f + 1, hk => exact jx_aim_k hK0 hwk t0 t1 hQ f (by omega) (by omega) h2 h3
    have hP0 := hK0.2.1.1.1
    have hK := jx_K_y (jx_gl_y HZ) hK0
    have e103 := HZ.1 103 (by omega)
    have e104 := HZ.1 104 (by omega)
    have e4 : σ 103 4 = σ0 103 4 := by rw [e103]
    have hsb := jm_gc_bd (w := jm_wgt a b c) hP0 k0 (show k ≤ σ0 103 4 by omega) (fun c _ _ => jm_wgt_ok hwk) t
    rw [← HS] at hsb
    have hI := hK.1
    obtain ⟨hto, hfo, hp, hP, e0, e1, e2, hPm, hcb, c0, p0, -⟩ := jx_I0_x hI
    have ho := hp.1
    have hq := hP.1
    have hw := hP.2.1
    have hq2 := hP.2.2.1
    have hcn := hcb.1
    refine jw_W_n 2 (i' := 14) (ls' := [some (.inr (.inr 13)), some (.inl a), some (.inl b), some (.inl c), some (.inl t), some (.inl k), v]) (st' := [.inr (.inr 13), .inl k]) rfl ?_
    refine jw_W_gf rfl rfl rfl ?_
    show jw_W (js_S n) _ md_173 15 [some (.inr (.inr 13)), some (.inl a), some (.inl b), some (.inl c), some (.inl t), some (.inl k), v] [.inr (.inr ((σ 13 2).toNat)), .inl k] σ _
    rw [hto]
    refine jw_W_gf rfl hp.2.1 rfl ?_
    show jw_W (js_S n) _ md_173 16 [some (.inr (.inr 13)), some (.inl a), some (.inl b), some (.inl c), some (.inl t), some (.inl k), v] [.inl (σ o 1), .inl k] σ _
    refine jw_W_ic rfl (by unfold jw_rg; omega) (by unfold jw_rg; omega) (fun hc1 => ?_) (fun hc1 => ?_)
    · have hc1 : k ≥ (σ o 1) := hc1
      have hkl : k = σ0 103 4 := by omega
      subst hkl
      exact hQ HZ HS
    · have hc1 : ¬ (k ≥ (σ o 1)) := hc1
      refine jw_W_n 1 (i' := 18) (ls' := [some (.inr (.inr 13)), some (.inl a), some (.inl b), some (.inl c), some (.inl t), some (.inl k), v]) (st' := [.inl k]) rfl ?_
      refine jw_W_if rfl (by unfold jw_rg; omega) (fun hc2 => ?_) (fun hc2 => ?_)
      · have hc2 : k ≠ 0 := hc2
        refine jw_W_n 2 (i' := 23) (ls' := [some (.inr (.inr 13)), some (.inl a), some (.inl b), some (.inl c), some (.inl t), some (.inl k), v]) (st' := [.inl 1, .inl k]) rfl ?_
        refine jw_W_ic rfl (by unfold jw_rg; omega) (by unfold jw_rg; omega) (fun hc3 => ?_) (fun hc3 => ?_)
        · have hc3 : k ≠ 1 := hc3
          refine jw_W_n 2 (i' := 28) (ls' := [some (.inr (.inr 13)), some (.inl a), some (.inl b), some (.inl c), some (.inl t), some (.inl k), some (.inl c)]) (st' := []) rfl ?_
          have ew : jm_wgt a b c k = c := by unfold jm_wgt; first | rw [if_pos (by omega)] | rw [if_neg (by omega), if_pos (by omega)] | rw [if_neg (by omega), if_neg (by omega)]
          obtain ⟨tk1, tk2⟩ := jx_tk hI k0 (show k < σ 103 4 by omega) t0 t1
          have hm := jx_m27 (x := c) (y := σ (o + 1) (3 * k + t)) (by unfold jm_wok at hwk; omega) (by omega)
          refine jw_W_n 1 (i' := 29) (ls' := [some (.inr (.inr 13)), some (.inl a), some (.inl b), some (.inl c), some (.inl t), some (.inl k), some (.inl c)]) (st' := [.inr (.inr 13)]) rfl ?_
          refine jw_W_gf rfl rfl rfl ?_
          show jw_W (js_S n) _ md_173 30 [some (.inr (.inr 13)), some (.inl a), some (.inl b), some (.inl c), some (.inl t), some (.inl k), some (.inl c)] [.inr (.inr 100)] σ _
          refine jw_W_n 2 (i' := 32) (ls' := [some (.inr (.inr 13)), some (.inl a), some (.inl b), some (.inl c), some (.inl t), some (.inl k), some (.inl c)]) (st' := [.inl t, .inr (.inr 100), .inl t, .inr (.inr 100)]) rfl ?_
          refine jw_W_ia rfl rfl (by omega) (by omega) (by omega) ?_
          show jw_W (js_S n) _ md_173 33 [some (.inr (.inr 13)), some (.inl a), some (.inl b), some (.inl c), some (.inl t), some (.inl k), some (.inl c)] [.inl (σ 100 t), .inl t, .inr (.inr 100)] σ _
          refine jw_W_n 2 (i' := 35) (ls' := [some (.inr (.inr 13)), some (.inl a), some (.inl b), some (.inl c), some (.inl t), some (.inl k), some (.inl c)]) (st' := [.inr (.inr 13), .inl c, .inl (σ 100 t), .inl t, .inr (.inr 100)]) rfl ?_
          refine jw_W_gf rfl rfl rfl ?_
          show jw_W (js_S n) _ md_173 36 [some (.inr (.inr 13)), some (.inl a), some (.inl b), some (.inl c), some (.inl t), some (.inl k), some (.inl c)] [.inr (.inr ((σ 13 2).toNat)), .inl c, .inl (σ 100 t), .inl t, .inr (.inr 100)] σ _
          rw [hto]
          refine jw_W_gf rfl hp.2.1 rfl ?_
          show jw_W (js_S n) _ md_173 37 [some (.inr (.inr 13)), some (.inl a), some (.inl b), some (.inl c), some (.inl t), some (.inl k), some (.inl c)] [.inr (.inr (o + 1)), .inl c, .inl (σ 100 t), .inl t, .inr (.inr 100)] σ _
          refine jw_W_n 5 (i' := 42) (ls' := [some (.inr (.inr 13)), some (.inl a), some (.inl b), some (.inl c), some (.inl t), some (.inl k), some (.inl c)]) (st' := [.inl ((3 * k) + t), .inr (.inr (o + 1)), .inl c, .inl (σ 100 t), .inl t, .inr (.inr 100)]) rfl ?_
          refine jw_W_ia rfl hp.2.2.1 (by omega) (by omega) (by omega) ?_
          show jw_W (js_S n) _ md_173 43 [some (.inr (.inr 13)), some (.inl a), some (.inl b), some (.inl c), some (.inl t), some (.inl k), some (.inl c)] [.inl (σ (o + 1) ((3 * k) + t)), .inl c, .inl (σ 100 t), .inl t, .inr (.inr 100)] σ _
          refine jw_W_n 2 (i' := 45) (ls' := [some (.inr (.inr 13)), some (.inl a), some (.inl b), some (.inl c), some (.inl t), some (.inl k), some (.inl c)]) (st' := [.inl (σ 100 t + (c * (σ (o + 1) ((3 * k) + t)))), .inl t, .inr (.inr 100)]) rfl ?_
          refine jw_W_is rfl (by omega) rfl (by omega) (by omega) (by omega) ?_
          refine jw_W_n 2 (i' := 12) (ls' := [some (.inr (.inr 13)), some (.inl a), some (.inl b), some (.inl c), some (.inl t), some (.inl (k + 1)), some (.inl c)]) (st' := []) rfl ?_
          refine ih (by omega) ⟨fun c hc => by rw [jw_up_out _ _ _ hc]; exact HZ.1 c hc, fun s s0 s1 => by rw [jw_up_ne _ (by omega)]; exact HZ.2 s s0 s1⟩ ?_
          rw [jm_gc_s k0 t0 t1, ew, ← HS, ← e104, ← tk1]
          exact jw_up_eq _ _ _ _
        · have hc3 : k = 1 := Classical.not_not.mp hc3
          refine jw_W_n 3 (i' := 28) (ls' := [some (.inr (.inr 13)), some (.inl a), some (.inl b), some (.inl c), some (.inl t), some (.inl k), some (.inl b)]) (st' := []) rfl ?_
          have ew : jm_wgt a b c k = b := by unfold jm_wgt; first | rw [if_pos (by omega)] | rw [if_neg (by omega), if_pos (by omega)] | rw [if_neg (by omega), if_neg (by omega)]
          obtain ⟨tk1, tk2⟩ := jx_tk hI k0 (show k < σ 103 4 by omega) t0 t1
          have hm := jx_m27 (x := b) (y := σ (o + 1) (3 * k + t)) (by unfold jm_wok at hwk; omega) (by omega)
          refine jw_W_n 1 (i' := 29) (ls' := [some (.inr (.inr 13)), some (.inl a), some (.inl b), some (.inl c), some (.inl t), some (.inl k), some (.inl b)]) (st' := [.inr (.inr 13)]) rfl ?_
          refine jw_W_gf rfl rfl rfl ?_
          show jw_W (js_S n) _ md_173 30 [some (.inr (.inr 13)), some (.inl a), some (.inl b), some (.inl c), some (.inl t), some (.inl k), some (.inl b)] [.inr (.inr 100)] σ _
          refine jw_W_n 2 (i' := 32) (ls' := [some (.inr (.inr 13)), some (.inl a), some (.inl b), some (.inl c), some (.inl t), some (.inl k), some (.inl b)]) (st' := [.inl t, .inr (.inr 100), .inl t, .inr (.inr 100)]) rfl ?_
          refine jw_W_ia rfl rfl (by omega) (by omega) (by omega) ?_
          show jw_W (js_S n) _ md_173 33 [some (.inr (.inr 13)), some (.inl a), some (.inl b), some (.inl c), some (.inl t), some (.inl k), some (.inl b)] [.inl (σ 100 t), .inl t, .inr (.inr 100)] σ _
          refine jw_W_n 2 (i' := 35) (ls' := [some (.inr (.inr 13)), some (.inl a), some (.inl b), some (.inl c), some (.inl t), some (.inl k), some (.inl b)]) (st' := [.inr (.inr 13), .inl b, .inl (σ 100 t), .inl t, .inr (.inr 100)]) rfl ?_
          refine jw_W_gf rfl rfl rfl ?_
          show jw_W (js_S n) _ md_173 36 [some (.inr (.inr 13)), some (.inl a), some (.inl b), some (.inl c), some (.inl t), some (.inl k), some (.inl b)] [.inr (.inr ((σ 13 2).toNat)), .inl b, .inl (σ 100 t), .inl t, .inr (.inr 100)] σ _
          rw [hto]
          refine jw_W_gf rfl hp.2.1 rfl ?_
          show jw_W (js_S n) _ md_173 37 [some (.inr (.inr 13)), some (.inl a), some (.inl b), some (.inl c), some (.inl t), some (.inl k), some (.inl b)] [.inr (.inr (o + 1)), .inl b, .inl (σ 100 t), .inl t, .inr (.inr 100)] σ _
          refine jw_W_n 5 (i' := 42) (ls' := [some (.inr (.inr 13)), some (.inl a), some (.inl b), some (.inl c), some (.inl t), some (.inl k), some (.inl b)]) (st' := [.inl ((3 * k) + t), .inr (.inr (o + 1)), .inl b, .inl (σ 100 t), .inl t, .inr (.inr 100)]) rfl ?_
          refine jw_W_ia rfl hp.2.2.1 (by omega) (by omega) (by omega) ?_
          show jw_W (js_S n) _ md_173 43 [some (.inr (.inr 13)), some (.inl a), some (.inl b), some (.inl c), some (.inl t), some (.inl k), some (.inl b)] [.inl (σ (o + 1) ((3 * k) + t)), .inl b, .inl (σ 100 t), .inl t, .inr (.inr 100)] σ _
          refine jw_W_n 2 (i' := 45) (ls' := [some (.inr (.inr 13)), some (.inl a), some (.inl b), some (.inl c), some (.inl t), some (.inl k), some (.inl b)]) (st' := [.inl (σ 100 t + (b * (σ (o + 1) ((3 * k) + t)))), .inl t, .inr (.inr 100)]) rfl ?_
          refine jw_W_is rfl (by omega) rfl (by omega) (by omega) (by omega) ?_
          refine jw_W_n 2 (i' := 12) (ls' := [some (.inr (.inr 13)), some (.inl a), some (.inl b), some (.inl c), some (.inl t), some (.inl (k + 1)), some (.inl b)]) (st' := []) rfl ?_
          refine ih (by omega) ⟨fun c hc => by rw [jw_up_out _ _ _ hc]; exact HZ.1 c hc, fun s s0 s1 => by rw [jw_up_ne _ (by omega)]; exact HZ.2 s s0 s1⟩ ?_
          rw [jm_gc_s k0 t0 t1, ew, ← HS, ← e104, ← tk1]
          exact jw_up_eq _ _ _ _
      · have hc2 : k = 0 := Classical.not_not.mp hc2
        refine jw_W_n 3 (i' := 28) (ls' := [some (.inr (.inr 13)), some (.inl a), some (.inl b), some (.inl c), some (.inl t), some (.inl k), some (.inl a)]) (st' := []) rfl ?_
        have ew : jm_wgt a b c k = a := by unfold jm_wgt; first | rw [if_pos (by omega)] | rw [if_neg (by omega), if_pos (by omega)] | rw [if_neg (by omega), if_neg (by omega)]
        obtain ⟨tk1, tk2⟩ := jx_tk hI k0 (show k < σ 103 4 by omega) t0 t1
        have hm := jx_m27 (x := a) (y := σ (o + 1) (3 * k + t)) (by unfold jm_wok at hwk; omega) (by omega)
        refine jw_W_n 1 (i' := 29) (ls' := [some (.inr (.inr 13)), some (.inl a), some (.inl b), some (.inl c), some (.inl t), some (.inl k), some (.inl a)]) (st' := [.inr (.inr 13)]) rfl ?_
        refine jw_W_gf rfl rfl rfl ?_
        show jw_W (js_S n) _ md_173 30 [some (.inr (.inr 13)), some (.inl a), some (.inl b), some (.inl c), some (.inl t), some (.inl k), some (.inl a)] [.inr (.inr 100)] σ _
        refine jw_W_n 2 (i' := 32) (ls' := [some (.inr (.inr 13)), some (.inl a), some (.inl b), some (.inl c), some (.inl t), some (.inl k), some (.inl a)]) (st' := [.inl t, .inr (.inr 100), .inl t, .inr (.inr 100)]) rfl ?_
        refine jw_W_ia rfl rfl (by omega) (by omega) (by omega) ?_
        show jw_W (js_S n) _ md_173 33 [some (.inr (.inr 13)), some (.inl a), some (.inl b), some (.inl c), some (.inl t), some (.inl k), some (.inl a)] [.inl (σ 100 t), .inl t, .inr (.inr 100)] σ _
        refine jw_W_n 2 (i' := 35) (ls' := [some (.inr (.inr 13)), some (.inl a), some (.inl b), some (.inl c), some (.inl t), some (.inl k), some (.inl a)]) (st' := [.inr (.inr 13), .inl a, .inl (σ 100 t), .inl t, .inr (.inr 100)]) rfl ?_
        refine jw_W_gf rfl rfl rfl ?_
        show jw_W (js_S n) _ md_173 36 [some (.inr (.inr 13)), some (.inl a), some (.inl b), some (.inl c), some (.inl t), some (.inl k), some (.inl a)] [.inr (.inr ((σ 13 2).toNat)), .inl a, .inl (σ 100 t), .inl t, .inr (.inr 100)] σ _
        rw [hto]
        refine jw_W_gf rfl hp.2.1 rfl ?_
        show jw_W (js_S n) _ md_173 37 [some (.inr (.inr 13)), some (.inl a), some (.inl b), some (.inl c), some (.inl t), some (.inl k), some (.inl a)] [.inr (.inr (o + 1)), .inl a, .inl (σ 100 t), .inl t, .inr (.inr 100)] σ _
        refine jw_W_n 5 (i' := 42) (ls' := [some (.inr (.inr 13)), some (.inl a), some (.inl b), some (.inl c), some (.inl t), some (.inl k), some (.inl a)]) (st' := [.inl ((3 * k) + t), .inr (.inr (o + 1)), .inl a, .inl (σ 100 t), .inl t, .inr (.inr 100)]) rfl ?_
        refine jw_W_ia rfl hp.2.2.1 (by omega) (by omega) (by omega) ?_
        show jw_W (js_S n) _ md_173 43 [some (.inr (.inr 13)), some (.inl a), some (.inl b), some (.inl c), some (.inl t), some (.inl k), some (.inl a)] [.inl (σ (o + 1) ((3 * k) + t)), .inl a, .inl (σ 100 t), .inl t, .inr (.inr 100)] σ _
        refine jw_W_n 2 (i' := 45) (ls' := [some (.inr (.inr 13)), some (.inl a), some (.inl b), some (.inl c), some (.inl t), some (.inl k), some (.inl a)]) (st' := [.inl (σ 100 t + (a * (σ (o + 1) ((3 * k) + t)))), .inl t, .inr (.inr 100)]) rfl ?_
        refine jw_W_is rfl (by omega) rfl (by omega) (by omega) (by omega) ?_
        refine jw_W_n 2 (i' := 12) (ls' := [some (.inr (.inr 13)), some (.inl a), some (.inl b), some (.inl c), some (.inl t), some (.inl (k + 1)), some (.inl a)]) (st' := []) rfl ?_
        refine ih (by omega) ⟨fun c hc => by rw [jw_up_out _ _ _ hc]; exact HZ.1 c hc, fun s s0 s1 => by rw [jw_up_ne _ (by omega)]; exact HZ.2 s s0 s1⟩ ?_
        rw [jm_gc_s k0 t0 t1, ew, ← HS, ← e104, ← tk1]
        exact jw_up_eq _ _ _ _
theorem jx_aim_t {n : Nat} {σ0 : jw_H} {o : Nat} {C : List (ge_R × Int)} (hK0 : jx_K n o C σ0) {a b c : Int} (hwk : jm_wok a b c) : ∀ (f : Nat) {σ : jw_H} {t : Int} {u v : Option jw_V}, 0 ≤ t → t + f = 3 → jx_gl σ0 (jm_wgt a b c) t σ → jw_W (js_S n) 0 md_173 2 [some (.inr (.inr 13)), some (.inl a), some (.inl b), some (.inl c), some (.inl t), u, v] [] σ (fun r σ' => r = none ∧ jx_gl σ0 (jm_wgt a b c) 3 σ')
  | f, σ, t, u, v, t0, hk, HZ => by
    have ih : ∀ {σ' : jw_H} {u' v' : Option jw_V}, t < 3 → jx_gl σ0 (jm_wgt a b c) (t + 1) σ' → jw_W (js_S n) 0 md_173 2 [some (.inr (.inr 13)), some (.inl a), some (.inl b), some (.inl c), some (.inl (t + 1)), u', v'] [] σ' (fun r σ' => r = none ∧ jx_gl σ0 (jm_wgt a b c) 3 σ') := by
      intro σ' u' v' h1 h2
      match f, hk with
      | 0, hk => omega
      | f + 1, hk => exact jx_aim_t hK0 hwk f (by omega) (by omega) h2
    have h4 := hK0.2.1.1.1.2.1
    refine jw_W_n 2 (i' := 4) (ls' := [some (.inr (.inr 13)), some (.inl a), some (.inl b), some (.inl c), some (.inl t), u, v]) (st' := [.inl 3, .inl t]) rfl ?_
    refine jw_W_ic rfl (by unfold jw_rg; omega) (by unfold jw_rg; omega) (fun hc1 => ?_) (fun hc1 => ?_)
    · have hc1 : t ≥ 3 := hc1
      refine jw_W_re rfl ?_
      have htl : t = 3 := by omega
      subst htl
      exact ⟨rfl, HZ⟩
    · have hc1 : ¬ (t ≥ 3) := hc1
      refine jw_W_n 1 (i' := 6) (ls' := [some (.inr (.inr 13)), some (.inl a), some (.inl b), some (.inl c), some (.inl t), u, v]) (st' := [.inr (.inr 13)]) rfl ?_
      refine jw_W_gf rfl rfl rfl ?_
      show jw_W (js_S n) _ md_173 7 [some (.inr (.inr 13)), some (.inl a), some (.inl b), some (.inl c), some (.inl t), u, v] [.inr (.inr 100)] σ _
      refine jw_W_n 2 (i' := 9) (ls' := [some (.inr (.inr 13)), some (.inl a), some (.inl b), some (.inl c), some (.inl t), u, v]) (st' := [.inl 0, .inl t, .inr (.inr 100)]) rfl ?_
      refine jw_W_is rfl (by omega) rfl (by omega) (by omega) (by omega) ?_
      refine jw_W_n 2 (i' := 12) (ls' := [some (.inr (.inr 13)), some (.inl a), some (.inl b), some (.inl c), some (.inl t), some (.inl 0), v]) (st' := []) rfl ?_
      refine jx_aim_k (D := 0) hK0 hwk t0 (by omega) (fun {σ v} HZ HS => ?_) (σ0 103 4).toNat (k := 0) (by omega) (by omega) ⟨fun c hc => by rw [jw_up_out _ _ _ hc]; exact HZ.1 c hc, fun s s0 s1 => by rw [jw_up_ne _ (by omega)]; exact HZ.2 s s0 s1⟩ ?_
      · have HZ1 : jx_gl σ0 (jm_wgt a b c) (t + 1) σ := ⟨HZ.1, fun s s0 s1 => by
          by_cases es : s = t
          · rw [es]
            exact HS
          · exact HZ.2 s s0 (by omega)⟩
        refine jw_W_n 2 (i' := 2) (ls' := [some (.inr (.inr 13)), some (.inl a), some (.inl b), some (.inl c), some (.inl (t + 1)), some (.inl (σ0 103 4)), v]) (st' := []) rfl ?_
        exact ih (by omega) HZ1
      · have e0 : jm_gc (jm_gk σ0 (jm_wgt a b c) (0 : Int).toNat) t = 0 := by
          show jm_gc (0, 0, 0) t = 0
          unfold jm_gc
          split
          · rfl
          · split <;> rfl
        rw [e0]
        exact jw_up_eq _ _ _ _
theorem jx_aim {n : Nat} {σ : jw_H} {o : Nat} {C : List (ge_R × Int)} (hK : jx_K n o C σ) {a b c : Int} (hwk : jm_wok a b c) : jw_T (js_S n) 1 173 [.inr (.inr 13), .inl a, .inl b, .inl c] σ (fun r σ' => r = none ∧ jx_gl σ (jm_wgt a b c) 3 σ') := by
  refine jw_T_of (D := 0) (M := mm_173) rfl (Nat.le_of_ble_eq_true rfl) (ls0 := [some (.inr (.inr 13)), some (.inl a), some (.inl b), some (.inl c), none, none, none]) rfl ?_ (by rintro _ _ ⟨rfl, -⟩; rfl)
  have hI := hK.1
  obtain ⟨hto, hfo, hp, hP, e0, e1, e2, hPm, hcb, c0, p0, -⟩ := jx_I0_x hI
  have ho := hp.1
  have hq := hP.1
  have hw := hP.2.1
  have hq2 := hP.2.2.1
  have hcn := hcb.1
  refine jw_W_n 2 (i' := 2) (ls' := [some (.inr (.inr 13)), some (.inl a), some (.inl b), some (.inl c), some (.inl 0), none, none]) (st' := []) rfl ?_
  exact jx_aim_t hK hwk 3 (t := 0) (by omega) (by omega) ⟨fun _ _ => rfl, fun s s0 s1 => by omega⟩
theorem jx_best {n : Nat} {σ : jw_H} {o : Nat} {C : List (ge_R × Int)} (hK : jx_K n o C σ) {a b2 c t : Int} (ra : jw_rg a) (rb : jw_rg b2) (rc : jw_rg c) (ht : jw_rg t) : jw_T (js_S n) 6 128 [.inr (.inr 13), .inl a, .inl b2, .inl c, .inl t] σ (fun r σ' => ∃ v, r = some (.inr (.inl v)) ∧ jx_fy σ σ' ∧ jm_bsa σ a b2 c t v) := by
  refine jw_T_of (D := 5) (M := mm_128) rfl (Nat.le_of_ble_eq_true rfl) (ls0 := [some (.inr (.inr 13)), some (.inl a), some (.inl b2), some (.inl c), some (.inl t), none]) rfl ?_ (by rintro _ _ ⟨_, rfl, -⟩; rfl)
  have hI := hK.1
  obtain ⟨hto, hfo, hp, hP, e0, e1, e2, hPm, hcb, c0, p0, -⟩ := jx_I0_x hI
  have ho := hp.1
  have hq := hP.1
  have hw := hP.2.1
  have hq2 := hP.2.2.1
  have hcn := hcb.1
  have rht := ht
  unfold jw_rg at rht
  refine jw_W_n 4 (i' := 4) (ls' := [some (.inr (.inr 13)), some (.inl a), some (.inl b2), some (.inl c), some (.inl t), none]) (st' := [.inl c, .inl b2, .inl a, .inr (.inr 13)]) rfl ?_
  refine jw_W_call (as := [.inr (.inr 13), .inl a, .inl b2, .inl c]) (rest := []) rfl rfl rfl rfl (Nat.le_of_ble_eq_true rfl) (.inr rfl) (jx_areWeights hK ra rb rc) (by omega) ?_ rfl
  rintro r1 σz (⟨rfl, hs, q5⟩ | ⟨rfl, hs, q5⟩)
  · rw [hs]
    show jw_W (js_S n) _ md_128 5 [some (.inr (.inr 13)), some (.inl a), some (.inl b2), some (.inl c), some (.inl t), none] [.inl 1] σ _
    refine jw_W_if rfl (by unfold jw_rg; omega) (fun hc1 => ?_) (fun hc1 => ?_)
    · exact absurd hc1 (show ¬ ((1 : Int) = 0) by omega)
    · clear hc1
      refine jw_W_n 1 (i' := 7) (ls' := [some (.inr (.inr 13)), some (.inl a), some (.inl b2), some (.inl c), some (.inl t), none]) (st' := [.inl t]) rfl ?_
      refine jw_W_if rfl (by unfold jw_rg; omega) (fun hc2 => ?_) (fun hc2 => ?_)
      · have hc2 : t < 0 := hc2
        refine jw_W_ld2 (z := (-100000000)) rfl rfl ?_
        refine jw_W_lr rfl ?_
        exact ⟨_, rfl, jx_fy_rf σ, .inl ⟨rfl, fun hh => by obtain ⟨g1, g2, g3⟩ := hh; first | omega | (exact absurd g1 (by assumption))⟩⟩
      · have hc2 : ¬ (t < 0) := hc2
        refine jw_W_n 2 (i' := 10) (ls' := [some (.inr (.inr 13)), some (.inl a), some (.inl b2), some (.inl c), some (.inl t), none]) (st' := [.inl 2, .inl t]) rfl ?_
        refine jw_W_ic rfl (by unfold jw_rg; omega) (by unfold jw_rg; omega) (fun hc3 => ?_) (fun hc3 => ?_)
        · have hc3 : t > 2 := hc3
          refine jw_W_ld2 (z := (-100000000)) rfl rfl ?_
          refine jw_W_lr rfl ?_
          exact ⟨_, rfl, jx_fy_rf σ, .inl ⟨rfl, fun hh => by obtain ⟨g1, g2, g3⟩ := hh; first | omega | (exact absurd g1 (by assumption))⟩⟩
        · have hc3 : ¬ (t > 2) := hc3
          refine jw_W_n 1 (i' := 12) (ls' := [some (.inr (.inr 13)), some (.inl a), some (.inl b2), some (.inl c), some (.inl t), none]) (st' := [.inr (.inr 13)]) rfl ?_
          refine jw_W_gf rfl rfl rfl ?_
          show jw_W (js_S n) _ md_128 13 [some (.inr (.inr 13)), some (.inl a), some (.inl b2), some (.inl c), some (.inl t), none] [.inr (.inr 57)] σ _
          refine jw_W_gf rfl rfl rfl ?_
          show jw_W (js_S n) _ md_128 14 [some (.inr (.inr 13)), some (.inl a), some (.inl b2), some (.inl c), some (.inl t), none] [.inl (σ 57 0)] σ _
          refine jw_W_if rfl (by unfold jw_rg; omega) (fun hc4 => ?_) (fun hc4 => ?_)
          · have hc4 : (σ 57 0) ≠ 0 := hc4
            refine jw_W_n 4 (i' := 21) (ls' := [some (.inr (.inr 13)), some (.inl a), some (.inl b2), some (.inl c), some (.inl t), none]) (st' := [.inl c, .inl b2, .inl a, .inr (.inr 13)]) rfl ?_
            refine jw_W_call (as := [.inr (.inr 13), .inl a, .inl b2, .inl c]) (rest := []) rfl rfl rfl rfl (Nat.le_of_ble_eq_true rfl) (.inr rfl) (jx_aim hK (by assumption)) (by omega) ?_ rfl
            rintro r1 σ1 ⟨rfl, hgl⟩
            have hf1 := jx_gl_y hgl
            have hK1 := jx_K_y hf1 hK
            have hI1 := hK1.1
            have hme1 := jx_fx_me (jx_fy_x hf1)
            have hcb1 := (jx_I0_x hI1).2.2.2.2.2.2.2.2.1
            have hG := jx_gl_G hgl
            have hwk : jm_wok a b2 c := by assumption
            have hGb := jm_gd3_Gb hPm hwk
            have eG : jx_G σ1 100 0 = jm_gd3 σ a b2 c := hG
            have e103 := hme1 103 (by omega)
            have e56 : σ1 103 56 = σ 103 56 := by rw [e103]
            show jw_W (js_S n) _ md_128 22 [some (.inr (.inr 13)), some (.inl a), some (.inl b2), some (.inl c), some (.inl t), none] [] σ1 _
            refine jw_W_n 1 (i' := 23) (ls' := [some (.inr (.inr 13)), some (.inl a), some (.inl b2), some (.inl c), some (.inl t), none]) (st' := [.inr (.inr 13)]) rfl ?_
            refine jw_W_gf rfl rfl rfl ?_
            show jw_W (js_S n) _ md_128 24 [some (.inr (.inr 13)), some (.inl a), some (.inl b2), some (.inl c), some (.inl t), none] [.inr (.inr 57)] σ1 _
            refine jw_W_gf rfl rfl rfl ?_
            show jw_W (js_S n) _ md_128 25 [some (.inr (.inr 13)), some (.inl a), some (.inl b2), some (.inl c), some (.inl t), none] [.inr (.inr 58)] σ1 _
            refine jw_W_n 1 (i' := 26) (ls' := [some (.inr (.inr 13)), some (.inl a), some (.inl b2), some (.inl c), some (.inl t), none]) (st' := [.inr (.inr 13), .inr (.inr 58)]) rfl ?_
            refine jw_W_gf rfl rfl rfl ?_
            show jw_W (js_S n) _ md_128 27 [some (.inr (.inr 13)), some (.inl a), some (.inl b2), some (.inl c), some (.inl t), none] [.inr (.inr 100), .inr (.inr 58)] σ1 _
            refine jw_W_n 1 (i' := 28) (ls' := [some (.inr (.inr 13)), some (.inl a), some (.inl b2), some (.inl c), some (.inl t), none]) (st' := [.inl 0, .inr (.inr 100), .inr (.inr 58)]) rfl ?_
            refine jw_W_call (as := [.inr (.inr 58), .inr (.inr 100), .inl 0]) (rest := []) rfl rfl rfl rfl (Nat.le_of_ble_eq_true rfl) (.inr rfl) (jx_firstWithMost (a := 100) (len := 3) (f := 0) (jx_pp_58 n) rfl (by omega) (by omega) (by omega) (by rw [eG]; exact hGb) (jx_I0_pb hI1)) (by omega) ?_ rfl
            rintro r1 σz ⟨b, rfl, hs, hfb⟩
            rw [hs]
            rw [eG, show σ1 58 0 = σ1 103 56 from (jx_I0_x hI1).2.2.2.2.2.2.2.2.2.2.1, e56] at hfb
            have hb := jx_fst_cg (P' := jm_ct σ) (fun i i0 i1 => by rw [(jx_I0_c hI1 i0 (by omega)).1]; exact jx_me_ct hme1 i) hfb
            have hb1 := jx_fst_in (by omega) hb
            show jw_W (js_S n) _ md_128 29 [some (.inr (.inr 13)), some (.inl a), some (.inl b2), some (.inl c), some (.inl t), none] [.inl b] σ1 _
            refine jw_W_n 2 (i' := 31) (ls' := [some (.inr (.inr 13)), some (.inl a), some (.inl b2), some (.inl c), some (.inl t), some (.inl b)]) (st' := [.inl b]) rfl ?_
            refine jw_W_if rfl (by unfold jw_rg; omega) (fun hc5 => ?_) (fun hc5 => ?_)
            · have hc5 : b < 0 := hc5
              refine jw_W_n 1 (i' := 36) (ls' := [some (.inr (.inr 13)), some (.inl a), some (.inl b2), some (.inl c), some (.inl t), some (.inl b)]) (st' := [.inl b]) rfl ?_
              refine jw_W_i2l rfl (by unfold jw_rg; omega) ?_
              refine jw_W_lr rfl ?_
              first | omega | exact ⟨_, rfl, hf1, .inr ⟨⟨hwk, by omega, by omega⟩, b, hb, .inl ⟨by omega, rfl⟩⟩⟩
            · have hc5 : ¬ (b < 0) := hc5
              refine jw_W_n 2 (i' := 34) (ls' := [some (.inr (.inr 13)), some (.inl a), some (.inl b2), some (.inl c), some (.inl t), some (.inl b)]) (st' := [.inl 2, .inl t]) rfl ?_
              refine jw_W_ic rfl (by unfold jw_rg; omega) (by unfold jw_rg; omega) (fun hc6 => ?_) (fun hc6 => ?_)
              · have hc6 : t ≠ 2 := hc6
                refine jw_W_n 2 (i' := 40) (ls' := [some (.inr (.inr 13)), some (.inl a), some (.inl b2), some (.inl c), some (.inl t), some (.inl b)]) (st' := [.inr (.inr 13), .inr (.inr 13)]) rfl ?_
                refine jw_W_gf rfl rfl rfl ?_
                show jw_W (js_S n) _ md_128 41 [some (.inr (.inr 13)), some (.inl a), some (.inl b2), some (.inl c), some (.inl t), some (.inl b)] [.inr (.inr 57), .inr (.inr 13)] σ1 _
                refine jw_W_gf rfl rfl rfl ?_
                show jw_W (js_S n) _ md_128 42 [some (.inr (.inr 13)), some (.inl a), some (.inl b2), some (.inl c), some (.inl t), some (.inl b)] [.inr (.inr 58), .inr (.inr 13)] σ1 _
                refine jw_W_n 2 (i' := 44) (ls' := [some (.inr (.inr 13)), some (.inl a), some (.inl b2), some (.inl c), some (.inl t), some (.inl b)]) (st' := [.inr (.inr 13), .inl b, .inr (.inr 58), .inr (.inr 13)]) rfl ?_
                refine jw_W_gf rfl rfl rfl ?_
                show jw_W (js_S n) _ md_128 45 [some (.inr (.inr 13)), some (.inl a), some (.inl b2), some (.inl c), some (.inl t), some (.inl b)] [.inr (.inr 100), .inl b, .inr (.inr 58), .inr (.inr 13)] σ1 _
                refine jw_W_n 1 (i' := 46) (ls' := [some (.inr (.inr 13)), some (.inl a), some (.inl b2), some (.inl c), some (.inl t), some (.inl b)]) (st' := [.inl 0, .inr (.inr 100), .inl b, .inr (.inr 58), .inr (.inr 13)]) rfl ?_
                refine jw_W_call (as := [.inr (.inr 58), .inl b, .inr (.inr 100), .inl 0]) (rest := [.inr (.inr 13)]) rfl rfl rfl rfl (Nat.le_of_ble_eq_true rfl) (.inr rfl) (jx_value (a := 100) (len := 3) (f := 0) (jx_pp_58 n) rfl (by omega) (by omega) (by omega) (i := b) (by omega) (by omega)) (by omega) ?_ rfl
                rintro r1 σz ⟨rfl, hs⟩
                rw [hs, eG, (jx_I0_c hI1 hb1.1 (by omega)).1, jx_me_ct hme1]
                have f1 := jx_f_bd hGb (jx_ct_bd hcb hb1.1 hb1.2)
                have c1 := jm_cw hcb hb1.1 hb1.2
                have c2 : σ 135 b ≤ 162 := (hcb.2 b hb1.1 hb1.2).2
                have e62 : σ1 62 b = σ 135 b := by rw [← hme1 135 (by omega)]; exact congrArg (fun v : ge_R => v.2.2.2) (jx_I0_c hI1 hb1.1 (by omega)).1
                show jw_W (js_S n) _ md_128 47 [some (.inr (.inr 13)), some (.inl a), some (.inl b2), some (.inl c), some (.inl t), some (.inl b)] [.inl (ge_f (jm_gd3 σ a b2 c) (jm_ct σ b)), .inr (.inr 13)] σ1 _
                refine jw_W_i2l rfl (by unfold jw_rg; omega) ?_
                refine jw_W_n 1 (i' := 49) (ls' := [some (.inr (.inr 13)), some (.inl a), some (.inl b2), some (.inl c), some (.inl t), some (.inl b)]) (st' := [.inr (.inr 13), .inr (.inl (ge_f (jm_gd3 σ a b2 c) (jm_ct σ b))), .inr (.inr 13)]) rfl ?_
                refine jw_W_gf rfl rfl rfl ?_
                show jw_W (js_S n) _ md_128 50 [some (.inr (.inr 13)), some (.inl a), some (.inl b2), some (.inl c), some (.inl t), some (.inl b)] [.inr (.inr 57), .inr (.inl (ge_f (jm_gd3 σ a b2 c) (jm_ct σ b))), .inr (.inr 13)] σ1 _
                refine jw_W_gf rfl rfl rfl ?_
                show jw_W (js_S n) _ md_128 51 [some (.inr (.inr 13)), some (.inl a), some (.inl b2), some (.inl c), some (.inl t), some (.inl b)] [.inr (.inr 58), .inr (.inl (ge_f (jm_gd3 σ a b2 c) (jm_ct σ b))), .inr (.inr 13)] σ1 _
                refine jw_W_gf rfl rfl rfl ?_
                show jw_W (js_S n) _ md_128 52 [some (.inr (.inr 13)), some (.inl a), some (.inl b2), some (.inl c), some (.inl t), some (.inl b)] [.inr (.inr 62), .inr (.inl (ge_f (jm_gd3 σ a b2 c) (jm_ct σ b))), .inr (.inr 13)] σ1 _
                refine jw_W_n 1 (i' := 53) (ls' := [some (.inr (.inr 13)), some (.inl a), some (.inl b2), some (.inl c), some (.inl t), some (.inl b)]) (st' := [.inl b, .inr (.inr 62), .inr (.inl (ge_f (jm_gd3 σ a b2 c) (jm_ct σ b))), .inr (.inr 13)]) rfl ?_
                refine jw_W_ia rfl rfl (by omega) (by omega) (by omega) ?_
                show jw_W (js_S n) _ md_128 54 [some (.inr (.inr 13)), some (.inl a), some (.inl b2), some (.inl c), some (.inl t), some (.inl b)] [.inl (σ1 62 b), .inr (.inl (ge_f (jm_gd3 σ a b2 c) (jm_ct σ b))), .inr (.inr 13)] σ1 _
                refine jw_W_i2l rfl (by unfold jw_rg; omega) ?_
                refine jw_W_n 1 (i' := 56) (ls' := [some (.inr (.inr 13)), some (.inl a), some (.inl b2), some (.inl c), some (.inl t), some (.inl b)]) (st' := [.inl t, .inr (.inl (σ1 62 b)), .inr (.inl (ge_f (jm_gd3 σ a b2 c) (jm_ct σ b))), .inr (.inr 13)]) rfl ?_
                refine jw_W_call (as := [.inr (.inr 13), .inr (.inl (ge_f (jm_gd3 σ a b2 c) (jm_ct σ b))), .inr (.inl (σ1 62 b)), .inl t]) (rest := []) rfl rfl rfl rfl (Nat.le_of_ble_eq_true rfl) (.inr rfl) (jx_partOf (by unfold jm_bg; omega) (by unfold jm_bg; omega) (by omega) (by unfold jw_rg; omega)) (by omega) ?_ rfl
                rintro r1 σ2 ⟨rfl, hs⟩
                show jw_W (js_S n) _ md_128 57 [some (.inr (.inr 13)), some (.inl a), some (.inl b2), some (.inl c), some (.inl t), some (.inl b)] [.inr (.inl (if t = 0 then (jx_fr (ge_f (jm_gd3 σ a b2 c) (jm_ct σ b)) (σ1 62 b)).1 else (jx_fr (ge_f (jm_gd3 σ a b2 c) (jm_ct σ b)) (σ1 62 b)).2))] σ2 _
                refine jw_W_lr rfl ?_
                have hf98 : jx_fy σ σ2 := by rw [hs]; exact jx_fy_fs hf1 (by omega)
                refine ⟨_, rfl, hf98, .inr ⟨⟨hwk, by omega, by omega⟩, b, hb, .inr ⟨by omega, ?_⟩⟩⟩
                have ee := jx_fr_of (u := ge_f (jm_gd3 σ a b2 c) (jm_ct σ b)) (l := σ1 62 b) (by omega)
                rw [ee.1, ee.2, e62]
                rcases (show t = 0 ∨ t = 1 by omega) with e | e
                · rw [e, if_pos rfl]
                · rw [e, if_neg (by decide)]
              · have hc6 : t = 2 := Classical.not_not.mp hc6
                refine jw_W_n 1 (i' := 36) (ls' := [some (.inr (.inr 13)), some (.inl a), some (.inl b2), some (.inl c), some (.inl t), some (.inl b)]) (st' := [.inl b]) rfl ?_
                refine jw_W_i2l rfl (by unfold jw_rg; omega) ?_
                refine jw_W_lr rfl ?_
                first | omega | exact ⟨_, rfl, hf1, .inr ⟨⟨hwk, by omega, by omega⟩, b, hb, .inl ⟨by omega, rfl⟩⟩⟩
          · have hc4 : (σ 57 0) = 0 := Classical.not_not.mp hc4
            refine jw_W_ld2 (z := (-100000000)) rfl rfl ?_
            refine jw_W_lr rfl ?_
            exact ⟨_, rfl, jx_fy_rf σ, .inl ⟨rfl, fun hh => by obtain ⟨g1, g2, g3⟩ := hh; first | omega | (exact absurd g1 (by assumption))⟩⟩
  · rw [hs]
    show jw_W (js_S n) _ md_128 5 [some (.inr (.inr 13)), some (.inl a), some (.inl b2), some (.inl c), some (.inl t), none] [.inl 0] σ _
    refine jw_W_if rfl (by unfold jw_rg; omega) (fun hc7 => ?_) (fun hc7 => ?_)
    · clear hc7
      refine jw_W_ld2 (z := (-100000000)) rfl rfl ?_
      refine jw_W_lr rfl ?_
      exact ⟨_, rfl, jx_fy_rf σ, .inl ⟨rfl, fun hh => by obtain ⟨g1, g2, g3⟩ := hh; first | omega | (exact absurd g1 (by assumption))⟩⟩
    · exact absurd hc7 (show ¬ ¬ ((0 : Int) = 0) by omega)

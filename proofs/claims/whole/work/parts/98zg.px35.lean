/-! ===== all ===== -/
theorem jm_nd_z {σ σ' : jw_H} (h : jm_fz σ σ') (hP : jm_Pb σ) {k : Int} (k0 : 0 ≤ k) (k1 : k < σ 103 5) : jm_nd σ' k ↔ jm_nd σ k := jm_nd_pq (jm_fz_pq h) hP k0 k1
theorem jm_needed {n : Nat} {σ : jw_H} {C : List (ge_R × Int)} (hKN : jm_KN σ C) {k : Int} (hk : jw_rg k) : jw_T (js_S n) 8 280 [.inr (.inr 103), .inl k] σ (fun r σ' => r = some (.inl (jm_nda σ k)) ∧ jm_fz σ σ') := by
  refine jw_T_of (D := 7) (M := mm_280) rfl (Nat.le_of_ble_eq_true rfl) (ls0 := [some (.inr (.inr 103)), some (.inl k)]) rfl ?_ (by rintro _ _ ⟨rfl, -⟩; rfl)
  have hcb := (jm_kw_cbd hKN.1).2 σ (jm_fk_rf σ)
  have hcn := hcb.1
  have hPm := hKN.1.1
  have hqq := hPm.1
  have hww := hPm.2.1
  have hkk := hPm.2.2.1
  have hg57 := hKN.2.2.1.1
  have hg58 := hKN.2.2.2.1.1
  have rhk := hk
  unfold jw_rg at rhk
  refine jw_W_n 3 (i' := 3) (ls' := [some (.inr (.inr 103)), some (.inl k)]) (st' := [.inr (.inr 103), .inl 0, .inl k]) rfl ?_
  refine jw_W_gf rfl rfl rfl ?_
  show jw_W (js_S n) _ md_280 4 [some (.inr (.inr 103)), some (.inl k)] [.inl (σ 103 5), .inl 0, .inl k] σ _
  refine jw_W_n 2 (i' := 6) (ls' := [some (.inr (.inr 103)), some (.inl k)]) (st' := [.inl (σ 103 5 - 1), .inl 0, .inl k]) rfl ?_
  refine jw_W_call (as := [.inl k, .inl 0, .inl (σ 103 5 - 1)]) (rest := []) rfl rfl rfl rfl (Nat.le_of_ble_eq_true rfl) (.inl rfl) (jm_in (by unfold jw_rg; omega) (by unfold jw_rg; omega) (by unfold jw_rg; omega)) (by omega) ?_ rfl
  rintro r1 σz (⟨rfl, hs, q1⟩ | ⟨rfl, hs, q1⟩)
  · rw [hs]
    show jw_W (js_S n) _ md_280 7 [some (.inr (.inr 103)), some (.inl k)] [.inl 1] σ _
    refine jw_W_if rfl (by unfold jw_rg; omega) (fun hc1 => ?_) (fun hc1 => ?_)
    · exact absurd hc1 (show ¬ ((1 : Int) = 0) by omega)
    · clear hc1
      refine jw_W_n 2 (i' := 10) (ls' := [some (.inr (.inr 103)), some (.inl k)]) (st' := [.inl k, .inr (.inr 103)]) rfl ?_
      refine jw_W_call (as := [.inr (.inr 103), .inl k]) (rest := []) rfl rfl rfl rfl (Nat.le_of_ble_eq_true rfl) (.inr rfl) (jm_isNeeded hKN (by omega) (by omega)) (by omega) ?_ rfl
      rintro r1 σ1 ⟨v, rfl, hf, hv⟩
      have hv01 : v = 0 ∨ v = 1 := by rcases hv with ⟨e, -⟩ | ⟨e, -⟩ <;> omega
      show jw_W (js_S n) _ md_280 11 [some (.inr (.inr 103)), some (.inl k)] [.inl v] σ1 _
      refine jw_W_if rfl (by unfold jw_rg; omega) (fun hc2 => ?_) (fun hc2 => ?_)
      · have hc2 : v = 0 := hc2
        refine jw_W_n 2 (i' := 17) (ls' := [some (.inr (.inr 103)), some (.inl k)]) (st' := [.inl 0]) rfl ?_
        refine jw_W_ir rfl ?_
        exact ⟨by unfold jm_nda; rw [if_neg (by omega), jx_b_0 (hv.resolve_left (fun hh => by omega)).2], hf⟩
      · have hc2 : ¬ (v = 0) := hc2
        refine jw_W_n 2 (i' := 17) (ls' := [some (.inr (.inr 103)), some (.inl k)]) (st' := [.inl 1]) rfl ?_
        refine jw_W_ir rfl ?_
        exact ⟨by unfold jm_nda; rw [if_neg (by omega), jx_b_1 (hv.resolve_right (fun hh => by omega)).2], hf⟩
  · rw [hs]
    show jw_W (js_S n) _ md_280 7 [some (.inr (.inr 103)), some (.inl k)] [.inl 0] σ _
    refine jw_W_if rfl (by unfold jw_rg; omega) (fun hc3 => ?_) (fun hc3 => ?_)
    · clear hc3
      refine jw_W_n 1 (i' := 17) (ls' := [some (.inr (.inr 103)), some (.inl k)]) (st' := [.inl ((-1))]) rfl ?_
      refine jw_W_ir rfl ?_
      exact ⟨by unfold jm_nda; rw [if_pos (by omega)], jm_fz_rf hKN⟩
    · exact absurd hc3 (show ¬ ¬ ((0 : Int) = 0) by omega)
theorem jm_needs_loop {n : Nat} {σ0 : jw_H} {C : List (ge_R × Int)} (hKN0 : jm_KN σ0 C) : ∀ (f : Nat) {σ : jw_H} {k m : Int}, 0 ≤ k → k + f = σ0 103 5 → jm_fz σ0 σ → m = jx_cn (fun c => jm_nd σ0 c) k.toNat → jw_W (js_S n) 7 md_281 4 [some (.inr (.inr 103)), some (.inl m), some (.inl k)] [] σ (fun r σ' => r = some (.inl (jx_cn (fun c => jm_nd σ0 c) (σ0 103 5).toNat)) ∧ jm_fz σ0 σ')
  | f, σ, k, m, k0, hk, HZ, H => by
    have ih : ∀ {σ' : jw_H} {m' : Int}, k < σ0 103 5 → jm_fz σ0 σ' → m' = jx_cn (fun c => jm_nd σ0 c) (k + 1).toNat → jw_W (js_S n) 7 md_281 4 [some (.inr (.inr 103)), some (.inl m'), some (.inl (k + 1))] [] σ' (fun r σ' => r = some (.inl (jx_cn (fun c => jm_nd σ0 c) (σ0 103 5).toNat)) ∧ jm_fz σ0 σ') := by
      intro σ' m' h1 h2 h3
      match f, hk with
      | 0, hk => omega
      | f + 1, hk => exact jm_needs_loop hKN0 f (by omega) (by omega) h2 h3
    have hP0 := hKN0.1.1
    have hKN := jm_KN_fz HZ hKN0
    have e5 : σ 103 5 = σ0 103 5 := HZ.2.1 5 (by omega)
    have hmm := jx_cn_le (fun c => jm_nd σ0 c) k.toNat
    have hcb := (jm_kw_cbd hKN.1).2 σ (jm_fk_rf σ)
    have hcn := hcb.1
    have hPm := hKN.1.1
    have hqq := hPm.1
    have hww := hPm.2.1
    have hkk := hPm.2.2.1
    have hg57 := hKN.2.2.1.1
    have hg58 := hKN.2.2.2.1.1
    refine jw_W_n 2 (i' := 6) (ls' := [some (.inr (.inr 103)), some (.inl m), some (.inl k)]) (st' := [.inr (.inr 103), .inl k]) rfl ?_
    refine jw_W_gf rfl rfl rfl ?_
    show jw_W (js_S n) _ md_281 7 [some (.inr (.inr 103)), some (.inl m), some (.inl k)] [.inl (σ 103 5), .inl k] σ _
    refine jw_W_ic rfl (by unfold jw_rg; omega) (by unfold jw_rg; omega) (fun hc1 => ?_) (fun hc1 => ?_)
    · have hc1 : k ≥ (σ 103 5) := hc1
      refine jw_W_n 1 (i' := 19) (ls' := [some (.inr (.inr 103)), some (.inl m), some (.inl k)]) (st' := [.inl m]) rfl ?_
      refine jw_W_ir rfl ?_
      have hkl : k = σ0 103 5 := by omega
      subst hkl
      exact ⟨by rw [H], HZ⟩
    · have hc1 : ¬ (k ≥ (σ 103 5)) := hc1
      refine jw_W_n 2 (i' := 10) (ls' := [some (.inr (.inr 103)), some (.inl m), some (.inl k)]) (st' := [.inl k, .inr (.inr 103)]) rfl ?_
      refine jw_W_call (as := [.inr (.inr 103), .inl k]) (rest := []) rfl rfl rfl rfl (Nat.le_of_ble_eq_true rfl) (.inr rfl) (jm_isNeeded hKN k0 (by omega)) (by omega) ?_ rfl
      rintro r1 σ1 ⟨v, rfl, hf, hv⟩
      have hv01 : v = 0 ∨ v = 1 := by rcases hv with ⟨e, -⟩ | ⟨e, -⟩ <;> omega
      have HZ1 := jm_fz_tr hP0 HZ hf
      have hgz := jm_nd_z HZ hP0 k0 (show k < σ0 103 5 by omega)
      show jw_W (js_S n) _ md_281 11 [some (.inr (.inr 103)), some (.inl m), some (.inl k)] [.inl v] σ1 _
      refine jw_W_if rfl (by unfold jw_rg; omega) (fun hc2 => ?_) (fun hc2 => ?_)
      · have hc2 : v = 0 := hc2
        refine jw_W_n 2 (i' := 4) (ls' := [some (.inr (.inr 103)), some (.inl m), some (.inl (k + 1))]) (st' := []) rfl ?_
        exact ih (by omega) HZ1 (jx_cn_no k0 H (fun hh => (hv.resolve_left (fun hh => by omega)).2 (hgz.mpr hh)))
      · have hc2 : ¬ (v = 0) := hc2
        refine jw_W_n 6 (i' := 4) (ls' := [some (.inr (.inr 103)), some (.inl (m + 1)), some (.inl (k + 1))]) (st' := []) rfl ?_
        exact ih (by omega) HZ1 (jx_cn_yes k0 H (hgz.mp (hv.resolve_right (fun hh => by omega)).2))
theorem jm_neededMany {n : Nat} {σ : jw_H} {C : List (ge_R × Int)} (hKN : jm_KN σ C)  : jw_T (js_S n) 8 281 [.inr (.inr 103)] σ (fun r σ' => r = some (.inl (jx_cn (fun c => jm_nd σ c) (σ 103 5).toNat)) ∧ jm_fz σ σ') := by
  refine jw_T_of (D := 7) (M := mm_281) rfl (Nat.le_of_ble_eq_true rfl) (ls0 := [some (.inr (.inr 103)), none, none]) rfl ?_ (by rintro _ _ ⟨rfl, -⟩; rfl)
  have hcb := (jm_kw_cbd hKN.1).2 σ (jm_fk_rf σ)
  have hcn := hcb.1
  have hPm := hKN.1.1
  have hqq := hPm.1
  have hww := hPm.2.1
  have hkk := hPm.2.2.1
  have hg57 := hKN.2.2.1.1
  have hg58 := hKN.2.2.2.1.1
  refine jw_W_n 4 (i' := 4) (ls' := [some (.inr (.inr 103)), some (.inl 0), some (.inl 0)]) (st' := []) rfl ?_
  exact jm_needs_loop hKN (σ 103 5).toNat (k := 0) (m := 0) (by omega) (by omega) (jm_fz_rf hKN) rfl
/-- the answers of all -/
noncomputable def jm_all (σ : jw_H) (k : Int) : Int := if k = 0 then σ 103 56 else if k = 1 then jm_eds σ 137 else if k = 2 then jx_cn (fun c => jm_good σ c) (σ 103 56).toNat else if k = 3 then jm_eds σ 138 else if k = 4 then jx_cn (fun c => jx_lo σ c) (σ 103 56).toNat else if k = 5 then σ 103 59 else if k = 6 then jx_cn (fun c => jm_weakb σ c) (σ 103 56).toNat else if k = 7 then jx_cn (fun c => jm_fc σ c) (σ 103 5 + 2 * σ 103 3).toNat else if k = 8 then jx_cn (fun c => jm_gf σ c) (σ 103 5 + 2 * σ 103 3).toNat else if k = 9 then jx_cn (fun c => jm_nv σ c) (σ 103 56).toNat else if k = 10 then jx_cn (fun c => jm_nd σ c) (σ 103 5).toNat else if k = 11 then jx_cn (fun c => σ 103 3 < jx_cn (fun k => jb_in (σ 136 c) k.toNat) 20) (σ 103 56).toNat else -1
theorem jx_by_me {σ0 σ : jw_H} (h : jx_me σ0 σ) (a c : Int) : jx_cc σ a c ↔ jx_cc σ0 a c := by
  unfold jx_cc
  simp only [jx_by_w (h 138 (by omega))]
theorem jx_lo_me {σ0 σ : jw_H} (h : jx_me σ0 σ) (c : Int) : jx_lo σ c ↔ jx_lo σ0 c := by
  unfold jx_lo jm_good
  simp only [jx_by_me h, h 103 (by omega)]
theorem jm_nv_me {σ0 σ : jw_H} (h : jx_me σ0 σ) (c : Int) : jm_nv σ c ↔ jm_nv σ0 c := by
  unfold jm_nv jm_good jm_al jm_W
  simp only [jx_me_ct h, h 103 (by omega), h 104 (by omega), h 135 (by omega)]
theorem jm_all_me {σ0 σ : jw_H} (h : jx_me σ0 σ) (hP : jm_Pb σ0) (k : Int) : jm_all σ k = jm_all σ0 k := by
  have e103 := h 103 (by omega)
  have g1 : jx_cn (fun c => jm_nd σ c) (σ0 103 5).toNat = jx_cn (fun c => jm_nd σ0 c) (σ0 103 5).toNat := jx_cn_iff (fun k h0 h1 => jm_nd_pq (jx_me_pq h) hP h0 (by omega))
  have g2 : (fun c => jm_fc σ c) = fun c => jm_fc σ0 c := funext fun c => propext (jm_gf_me h hP c).1
  have g3 : (fun c => jm_gf σ c) = fun c => jm_gf σ0 c := funext fun c => propext (jm_gf_me h hP c).2
  have g4 : (fun c => jm_nv σ c) = fun c => jm_nv σ0 c := funext fun c => propext (jm_nv_me h c)
  have g5 : (fun c => jx_lo σ c) = fun c => jx_lo σ0 c := funext fun c => propext (jx_lo_me h c)
  unfold jm_all
  rw [e103, g1, g2, g3, g4, g5]
  unfold jm_eds jm_nx jm_good jm_weakb
  rw [e103, h 137 (by omega), h 138 (by omega), h 136 (by omega)]
theorem jm_gd_cn {σ : jw_H} {f : Int} {C : List (ge_R × Int)} {P : ge_R → Prop} {m : Int} (hm : 0 ≤ m ∧ m ≤ 20) (h : jm_gd σ f C m P) : jx_cn (fun k => jb_in (σ 103 f) k.toNat) 20 = jx_cn (fun c => jb_in (σ 103 f) c.toNat) m.toNat :=
  jx_cn_more (by omega) (fun k h0 h1 hh => by
    have := ((h.2 k (by omega)).mp hh).1
    omega)
theorem jm_alls {n : Nat} {σ : jw_H} {C : List (ge_R × Int)} (hKN : jm_KN σ C) {k : Int} (hk : jw_rg k) : jw_T (js_S n) 9 282 [.inr (.inr 103), .inl k] σ (fun r σ' => r = some (.inl (jm_all σ k)) ∧ jm_fz σ σ') := by
  refine jw_T_of (D := 8) (M := mm_282) rfl (Nat.le_of_ble_eq_true rfl) (ls0 := [some (.inr (.inr 103)), some (.inl k)]) rfl ?_ (by rintro _ _ ⟨rfl, -⟩; rfl)
  have hcb := (jm_kw_cbd hKN.1).2 σ (jm_fk_rf σ)
  have hcn := hcb.1
  have hPm := hKN.1.1
  have hqq := hPm.1
  have hww := hPm.2.1
  have hkk := hPm.2.2.1
  have hg57 := hKN.2.2.1.1
  have hg58 := hKN.2.2.2.1.1
  have rhk := hk
  unfold jw_rg at rhk
  have hg57g := hKN.2.2.1
  have hg58g := hKN.2.2.2.1
  have hCl := (jm_kw_cbd hKN.1).1
  have e56 : (C.length : Int) = σ 103 56 := by have := hKN.1.2.1.1.1; omega
  rw [e56] at hg57g hg58g
  refine jw_W_n 1 (i' := 1) (ls' := [some (.inr (.inr 103)), some (.inl k)]) (st' := [.inl k]) rfl ?_
  refine jw_W_sw rfl (by unfold jw_rg; omega) rfl (fun hc1 => ?_) (fun hc1a hc1b t ht => ?_)
  · have hc1 : k < 0 ∨ 11 < k := hc1
    refine jw_W_n 1 (i' := 47) (ls' := [some (.inr (.inr 103)), some (.inl k)]) (st' := [.inl ((-1))]) rfl ?_
    refine jw_W_ir rfl ?_
    refine ⟨?_, jm_fz_rf hKN⟩
    unfold jm_all
    rw [if_neg (by omega), if_neg (by omega), if_neg (by omega), if_neg (by omega), if_neg (by omega), if_neg (by omega), if_neg (by omega), if_neg (by omega), if_neg (by omega), if_neg (by omega), if_neg (by omega), if_neg (by omega)]
  · rcases (show k = 0 ∨ k = 1 ∨ k = 2 ∨ k = 3 ∨ k = 4 ∨ k = 5 ∨ k = 6 ∨ k = 7 ∨ k = 8 ∨ k = 9 ∨ k = 10 ∨ k = 11 by omega) with hc1 | hc1 | hc1 | hc1 | hc1 | hc1 | hc1 | hc1 | hc1 | hc1 | hc1 | hc1
    · obtain rfl : 2 = t := by rw [hc1] at ht; exact Option.some.inj ht
      refine jw_W_n 1 (i' := 3) (ls' := [some (.inr (.inr 103)), some (.inl k)]) (st' := [.inr (.inr 103)]) rfl ?_
      refine jw_W_gf rfl rfl rfl ?_
      show jw_W (js_S n) _ md_282 4 [some (.inr (.inr 103)), some (.inl k)] [.inl (σ 103 56)] σ _
      refine jw_W_ir rfl ?_
      refine ⟨?_, jm_fz_rf hKN⟩
      unfold jm_all
      rw [if_pos (by omega)]
    · obtain rfl : 5 = t := by rw [hc1] at ht; exact Option.some.inj ht
      refine jw_W_n 2 (i' := 7) (ls' := [some (.inr (.inr 103)), some (.inl k)]) (st' := [.inr (.inr 103), .inr (.inr 103)]) rfl ?_
      refine jw_W_gf rfl rfl rfl ?_
      show jw_W (js_S n) _ md_282 8 [some (.inr (.inr 103)), some (.inl k)] [.inr (.inr 137), .inr (.inr 103)] σ _
      refine jw_W_call (as := [.inr (.inr 103), .inr (.inr 137)]) (rest := []) rfl rfl rfl rfl (Nat.le_of_ble_eq_true rfl) (.inr rfl) (jm_edges1 hKN) (by omega) ?_ rfl
      rintro r1 σz ⟨rfl, hs⟩
      rw [hs]
      show jw_W (js_S n) _ md_282 9 [some (.inr (.inr 103)), some (.inl k)] [.inl (jm_eds σ 137)] σ _
      refine jw_W_ir rfl ?_
      refine ⟨?_, jm_fz_rf hKN⟩
      unfold jm_all
      rw [if_neg (by omega), if_pos (by omega)]
    · obtain rfl : 10 = t := by rw [hc1] at ht; exact Option.some.inj ht
      refine jw_W_n 1 (i' := 11) (ls' := [some (.inr (.inr 103)), some (.inl k)]) (st' := [.inr (.inr 103)]) rfl ?_
      refine jw_W_gf rfl rfl rfl ?_
      show jw_W (js_S n) _ md_282 12 [some (.inr (.inr 103)), some (.inl k)] [.inl (σ 103 57)] σ _
      refine jw_W_call (as := [.inl (σ 103 57)]) (rest := []) rfl rfl rfl rfl (Nat.le_of_ble_eq_true rfl) (.inl rfl) (jx_sizeOf (by omega) (by omega)) (by omega) ?_ rfl
      rintro r1 σz ⟨rfl, hs⟩
      rw [hs]
      show jw_W (js_S n) _ md_282 13 [some (.inr (.inr 103)), some (.inl k)] [.inl (jx_cn (fun k => jb_in (σ 103 57) k.toNat) 20)] σ _
      refine jw_W_ir rfl ?_
      refine ⟨?_, jm_fz_rf hKN⟩
      have en := jm_gd_cn (by omega) hg57g
      unfold jm_all
      rw [if_neg (by omega), if_neg (by omega), if_pos (by omega)]
      rw [en]
      rfl
    · obtain rfl : 14 = t := by rw [hc1] at ht; exact Option.some.inj ht
      refine jw_W_n 2 (i' := 16) (ls' := [some (.inr (.inr 103)), some (.inl k)]) (st' := [.inr (.inr 103), .inr (.inr 103)]) rfl ?_
      refine jw_W_gf rfl rfl rfl ?_
      show jw_W (js_S n) _ md_282 17 [some (.inr (.inr 103)), some (.inl k)] [.inr (.inr 138), .inr (.inr 103)] σ _
      refine jw_W_call (as := [.inr (.inr 103), .inr (.inr 138)]) (rest := []) rfl rfl rfl rfl (Nat.le_of_ble_eq_true rfl) (.inr rfl) (jm_edges2 hKN) (by omega) ?_ rfl
      rintro r1 σz ⟨rfl, hs⟩
      rw [hs]
      show jw_W (js_S n) _ md_282 18 [some (.inr (.inr 103)), some (.inl k)] [.inl (jm_eds σ 138)] σ _
      refine jw_W_ir rfl ?_
      refine ⟨?_, jm_fz_rf hKN⟩
      unfold jm_all
      rw [if_neg (by omega), if_neg (by omega), if_neg (by omega), if_pos (by omega)]
    · obtain rfl : 19 = t := by rw [hc1] at ht; exact Option.some.inj ht
      refine jw_W_n 1 (i' := 20) (ls' := [some (.inr (.inr 103)), some (.inl k)]) (st' := [.inr (.inr 103)]) rfl ?_
      refine jw_W_call (as := [.inr (.inr 103)]) (rest := []) rfl rfl rfl rfl (Nat.le_of_ble_eq_true rfl) (.inr rfl) (jm_pieces hKN) (by omega) ?_ rfl
      rintro r1 σz ⟨rfl, hs⟩
      rw [hs]
      show jw_W (js_S n) _ md_282 21 [some (.inr (.inr 103)), some (.inl k)] [.inl (jx_cn (fun c => jx_lo σ c) (σ 103 56).toNat)] σ _
      refine jw_W_ir rfl ?_
      refine ⟨?_, jm_fz_rf hKN⟩
      unfold jm_all
      rw [if_neg (by omega), if_neg (by omega), if_neg (by omega), if_neg (by omega), if_pos (by omega)]
    · obtain rfl : 22 = t := by rw [hc1] at ht; exact Option.some.inj ht
      refine jw_W_n 1 (i' := 23) (ls' := [some (.inr (.inr 103)), some (.inl k)]) (st' := [.inr (.inr 103)]) rfl ?_
      refine jw_W_gf rfl rfl rfl ?_
      show jw_W (js_S n) _ md_282 24 [some (.inr (.inr 103)), some (.inl k)] [.inl (σ 103 59)] σ _
      refine jw_W_ir rfl ?_
      refine ⟨?_, jm_fz_rf hKN⟩
      unfold jm_all
      rw [if_neg (by omega), if_neg (by omega), if_neg (by omega), if_neg (by omega), if_neg (by omega), if_pos (by omega)]
    · obtain rfl : 25 = t := by rw [hc1] at ht; exact Option.some.inj ht
      refine jw_W_n 1 (i' := 26) (ls' := [some (.inr (.inr 103)), some (.inl k)]) (st' := [.inr (.inr 103)]) rfl ?_
      refine jw_W_gf rfl rfl rfl ?_
      show jw_W (js_S n) _ md_282 27 [some (.inr (.inr 103)), some (.inl k)] [.inl (σ 103 58)] σ _
      refine jw_W_call (as := [.inl (σ 103 58)]) (rest := []) rfl rfl rfl rfl (Nat.le_of_ble_eq_true rfl) (.inl rfl) (jx_sizeOf (by omega) (by omega)) (by omega) ?_ rfl
      rintro r1 σz ⟨rfl, hs⟩
      rw [hs]
      show jw_W (js_S n) _ md_282 28 [some (.inr (.inr 103)), some (.inl k)] [.inl (jx_cn (fun k => jb_in (σ 103 58) k.toNat) 20)] σ _
      refine jw_W_ir rfl ?_
      refine ⟨?_, jm_fz_rf hKN⟩
      have en := jm_gd_cn (by omega) hg58g
      unfold jm_all
      rw [if_neg (by omega), if_neg (by omega), if_neg (by omega), if_neg (by omega), if_neg (by omega), if_neg (by omega), if_pos (by omega)]
      rw [en]
      rfl
    · obtain rfl : 29 = t := by rw [hc1] at ht; exact Option.some.inj ht
      refine jw_W_n 2 (i' := 31) (ls' := [some (.inr (.inr 103)), some (.inl k)]) (st' := [.inl 0, .inr (.inr 103)]) rfl ?_
      refine jw_W_call (as := [.inr (.inr 103), .inl 0]) (rest := []) rfl rfl rfl rfl (Nat.le_of_ble_eq_true rfl) (.inr rfl) (jm_faces0 hKN) (by omega) ?_ rfl
      rintro r1 σ1 ⟨rfl, hf⟩
      show jw_W (js_S n) _ md_282 32 [some (.inr (.inr 103)), some (.inl k)] [.inl (jx_cn (fun c => jm_fc σ c) (σ 103 5 + 2 * σ 103 3).toNat)] σ1 _
      refine jw_W_ir rfl ?_
      refine ⟨?_, hf⟩
      unfold jm_all
      rw [if_neg (by omega), if_neg (by omega), if_neg (by omega), if_neg (by omega), if_neg (by omega), if_neg (by omega), if_neg (by omega), if_pos (by omega)]
    · obtain rfl : 33 = t := by rw [hc1] at ht; exact Option.some.inj ht
      refine jw_W_n 2 (i' := 35) (ls' := [some (.inr (.inr 103)), some (.inl k)]) (st' := [.inl 1, .inr (.inr 103)]) rfl ?_
      refine jw_W_call (as := [.inr (.inr 103), .inl 1]) (rest := []) rfl rfl rfl rfl (Nat.le_of_ble_eq_true rfl) (.inr rfl) (jm_faces1 hKN) (by omega) ?_ rfl
      rintro r1 σ1 ⟨rfl, hf⟩
      show jw_W (js_S n) _ md_282 36 [some (.inr (.inr 103)), some (.inl k)] [.inl (jx_cn (fun c => jm_gf σ c) (σ 103 5 + 2 * σ 103 3).toNat)] σ1 _
      refine jw_W_ir rfl ?_
      refine ⟨?_, hf⟩
      unfold jm_all
      rw [if_neg (by omega), if_neg (by omega), if_neg (by omega), if_neg (by omega), if_neg (by omega), if_neg (by omega), if_neg (by omega), if_neg (by omega), if_pos (by omega)]
    · obtain rfl : 37 = t := by rw [hc1] at ht; exact Option.some.inj ht
      refine jw_W_n 1 (i' := 38) (ls' := [some (.inr (.inr 103)), some (.inl k)]) (st' := [.inr (.inr 103)]) rfl ?_
      refine jw_W_call (as := [.inr (.inr 103)]) (rest := []) rfl rfl rfl rfl (Nat.le_of_ble_eq_true rfl) (.inr rfl) (jm_values hKN) (by omega) ?_ rfl
      rintro r1 σz ⟨rfl, hs⟩
      rw [hs]
      show jw_W (js_S n) _ md_282 39 [some (.inr (.inr 103)), some (.inl k)] [.inl (jx_cn (fun c => jm_nv σ c) (σ 103 56).toNat)] σ _
      refine jw_W_ir rfl ?_
      refine ⟨?_, jm_fz_rf hKN⟩
      unfold jm_all
      rw [if_neg (by omega), if_neg (by omega), if_neg (by omega), if_neg (by omega), if_neg (by omega), if_neg (by omega), if_neg (by omega), if_neg (by omega), if_neg (by omega), if_pos (by omega)]
    · obtain rfl : 40 = t := by rw [hc1] at ht; exact Option.some.inj ht
      refine jw_W_n 1 (i' := 41) (ls' := [some (.inr (.inr 103)), some (.inl k)]) (st' := [.inr (.inr 103)]) rfl ?_
      refine jw_W_call (as := [.inr (.inr 103)]) (rest := []) rfl rfl rfl rfl (Nat.le_of_ble_eq_true rfl) (.inr rfl) (jm_neededMany hKN) (by omega) ?_ rfl
      rintro r1 σ1 ⟨rfl, hf⟩
      show jw_W (js_S n) _ md_282 42 [some (.inr (.inr 103)), some (.inl k)] [.inl (jx_cn (fun c => jm_nd σ c) (σ 103 5).toNat)] σ1 _
      refine jw_W_ir rfl ?_
      refine ⟨?_, hf⟩
      unfold jm_all
      rw [if_neg (by omega), if_neg (by omega), if_neg (by omega), if_neg (by omega), if_neg (by omega), if_neg (by omega), if_neg (by omega), if_neg (by omega), if_neg (by omega), if_neg (by omega), if_pos (by omega)]
    · obtain rfl : 43 = t := by rw [hc1] at ht; exact Option.some.inj ht
      refine jw_W_n 1 (i' := 44) (ls' := [some (.inr (.inr 103)), some (.inl k)]) (st' := [.inr (.inr 103)]) rfl ?_
      refine jw_W_call (as := [.inr (.inr 103)]) (rest := []) rfl rfl rfl rfl (Nat.le_of_ble_eq_true rfl) (.inr rfl) (jm_crowded hKN) (by omega) ?_ rfl
      rintro r1 σz ⟨rfl, hs⟩
      rw [hs]
      show jw_W (js_S n) _ md_282 45 [some (.inr (.inr 103)), some (.inl k)] [.inl (jx_cn (fun c => σ 103 3 < jx_cn (fun k => jb_in (σ 136 c) k.toNat) 20) (σ 103 56).toNat)] σ _
      refine jw_W_ir rfl ?_
      refine ⟨?_, jm_fz_rf hKN⟩
      unfold jm_all
      rw [if_neg (by omega), if_neg (by omega), if_neg (by omega), if_neg (by omega), if_neg (by omega), if_neg (by omega), if_neg (by omega), if_neg (by omega), if_neg (by omega), if_neg (by omega), if_neg (by omega), if_pos (by omega)]
theorem jx_all {n : Nat} {σ : jw_H} {o : Nat} {C : List (ge_R × Int)} (hK : jx_K n o C σ) {k : Int} (hk : jw_rg k) : jw_T (js_S n) 10 125 [.inr (.inr 13), .inl k] σ (fun r σ' => r = some (.inl (jm_all σ k)) ∧ jx_fx σ σ' ∧ jx_jj σ') := by
  refine jw_T_of (D := 9) (M := mm_125) rfl (Nat.le_of_ble_eq_true rfl) (ls0 := [some (.inr (.inr 13)), some (.inl k)]) rfl ?_ (by rintro _ _ ⟨rfl, -⟩; rfl)
  have hI := hK.1
  obtain ⟨hto, hfo, hp, hP, e0, e1, e2, hPm, hcb, c0, p0, -⟩ := jx_I0_x hI
  have ho := hp.1
  have hq := hP.1
  have hw := hP.2.1
  have hq2 := hP.2.2.1
  have hcn := hcb.1
  have rhk := hk
  unfold jw_rg at rhk
  refine jw_W_n 1 (i' := 1) (ls' := [some (.inr (.inr 13)), some (.inl k)]) (st' := [.inl k]) rfl ?_
  refine jw_W_if rfl (by unfold jw_rg; omega) (fun hc1 => ?_) (fun hc1 => ?_)
  · have hc1 : k < 0 := hc1
    refine jw_W_n 1 (i' := 6) (ls' := [some (.inr (.inr 13)), some (.inl k)]) (st' := [.inl ((-1))]) rfl ?_
    refine jw_W_ir rfl ?_
    refine ⟨?_, jx_fx_rf σ, hK.2.2⟩
    unfold jm_all
    rw [if_neg (by omega), if_neg (by omega), if_neg (by omega), if_neg (by omega), if_neg (by omega), if_neg (by omega), if_neg (by omega), if_neg (by omega), if_neg (by omega), if_neg (by omega), if_neg (by omega), if_neg (by omega)]
  · have hc1 : ¬ (k < 0) := hc1
    refine jw_W_n 2 (i' := 4) (ls' := [some (.inr (.inr 13)), some (.inl k)]) (st' := [.inl 11, .inl k]) rfl ?_
    refine jw_W_ic rfl (by unfold jw_rg; omega) (by unfold jw_rg; omega) (fun hc2 => ?_) (fun hc2 => ?_)
    · have hc2 : k ≤ 11 := hc2
      refine jw_W_n 1 (i' := 8) (ls' := [some (.inr (.inr 13)), some (.inl k)]) (st' := [.inr (.inr 13)]) rfl ?_
      refine jw_W_gf rfl rfl rfl ?_
      show jw_W (js_S n) _ md_125 9 [some (.inr (.inr 13)), some (.inl k)] [.inr (.inr 57)] σ _
      refine jw_W_call (as := [.inr (.inr 57)]) (rest := []) rfl rfl rfl rfl (Nat.le_of_ble_eq_true rfl) (.inr rfl) (jx_judgeK hK) (by omega) ?_ rfl
      rintro r1 σ1 ⟨rfl, hf1, hK1⟩
      have hI1 := hK1.1
      have hfo1 := hI1.2.1.1
      have hto1 : (σ1 13 2).toNat = o := by have := hI1.1.1; omega
      have hKN1 := hK1.2.1
      have hjd1 := hK1.2.2.2
      have hme1 := jx_fx_me hf1
      have e1031 : σ1 103 = σ 103 := hme1 103 (by omega)
      have e5701 : σ1 57 0 = σ 103 56 := by rw [← e1031]; exact hI1.2.1.2.1
      have hI1x := jx_I0_x hI1
      have hPm1 := hI1x.2.2.2.2.2.2.2.1
      have hcb1 := hI1x.2.2.2.2.2.2.2.2.1
      have e0561 : σ1 103 56 = σ 103 56 := by rw [e1031]
      have e0031 : σ1 103 3 = σ 103 3 := by rw [e1031]
      have e0041 : σ1 103 4 = σ 103 4 := by rw [e1031]
      have e0051 : σ1 103 5 = σ 103 5 := by rw [e1031]
      show jw_W (js_S n) _ md_125 10 [some (.inr (.inr 13)), some (.inl k)] [] σ1 _
      refine jw_W_n 1 (i' := 11) (ls' := [some (.inr (.inr 13)), some (.inl k)]) (st' := [.inl k]) rfl ?_
      refine jw_W_sw rfl (by unfold jw_rg; omega) rfl (fun hc3 => ?_) (fun hc3a hc3b t ht => ?_)
      · have hc3 : k < 0 ∨ 10 < k := hc3
        refine jw_W_n 1 (i' := 60) (ls' := [some (.inr (.inr 13)), some (.inl k)]) (st' := [.inr (.inr 13)]) rfl ?_
        refine jw_W_gf rfl rfl rfl ?_
        show jw_W (js_S n) _ md_125 61 [some (.inr (.inr 13)), some (.inl k)] [.inr (.inr 57)] σ1 _
        refine jw_W_call (as := [.inr (.inr 57)]) (rest := []) rfl rfl rfl rfl (Nat.le_of_ble_eq_true rfl) (.inr rfl) (jx_crowded hK1) (by omega) ?_ rfl
        rintro r1 σz ⟨rfl, hs⟩
        rw [hs]
        show jw_W (js_S n) _ md_125 62 [some (.inr (.inr 13)), some (.inl k)] [.inl (jx_cn (fun c => σ1 103 3 < jx_cn (fun k => jb_in (σ1 136 c) k.toNat) 20) (σ1 103 56).toNat)] σ1 _
        refine jw_W_ir rfl ?_
        refine ⟨?_, hf1, .inr hK1.2.2⟩
        rw [← jm_all_me hme1 hPm k]
        unfold jm_all
        rw [if_neg (by omega), if_neg (by omega), if_neg (by omega), if_neg (by omega), if_neg (by omega), if_neg (by omega), if_neg (by omega), if_neg (by omega), if_neg (by omega), if_neg (by omega), if_neg (by omega), if_pos (by omega)]
      · rcases (show k = 0 ∨ k = 1 ∨ k = 2 ∨ k = 3 ∨ k = 4 ∨ k = 5 ∨ k = 6 ∨ k = 7 ∨ k = 8 ∨ k = 9 ∨ k = 10 by omega) with hc3 | hc3 | hc3 | hc3 | hc3 | hc3 | hc3 | hc3 | hc3 | hc3 | hc3
        · obtain rfl : 12 = t := by rw [hc3] at ht; exact Option.some.inj ht
          refine jw_W_n 1 (i' := 13) (ls' := [some (.inr (.inr 13)), some (.inl k)]) (st' := [.inr (.inr 13)]) rfl ?_
          refine jw_W_gf rfl rfl rfl ?_
          show jw_W (js_S n) _ md_125 14 [some (.inr (.inr 13)), some (.inl k)] [.inr (.inr 57)] σ1 _
          refine jw_W_gf rfl rfl rfl ?_
          show jw_W (js_S n) _ md_125 15 [some (.inr (.inr 13)), some (.inl k)] [.inl (σ1 57 0)] σ1 _
          refine jw_W_ir rfl ?_
          refine ⟨?_, hf1, .inr hK1.2.2⟩
          rw [← jm_all_me hme1 hPm k]
          unfold jm_all
          rw [if_pos (by omega)]
          rw [e5701, e1031]
        · obtain rfl : 16 = t := by rw [hc3] at ht; exact Option.some.inj ht
          refine jw_W_n 1 (i' := 17) (ls' := [some (.inr (.inr 13)), some (.inl k)]) (st' := [.inr (.inr 13)]) rfl ?_
          refine jw_W_gf rfl rfl rfl ?_
          show jw_W (js_S n) _ md_125 18 [some (.inr (.inr 13)), some (.inl k)] [.inr (.inr 57)] σ1 _
          refine jw_W_n 1 (i' := 19) (ls' := [some (.inr (.inr 13)), some (.inl k)]) (st' := [.inl 1, .inr (.inr 57)]) rfl ?_
          refine jw_W_call (as := [.inr (.inr 57), .inl 1]) (rest := []) rfl rfl rfl rfl (Nat.le_of_ble_eq_true rfl) (.inr rfl) (jx_links1 hK1) (by omega) ?_ rfl
          rintro r1 σz ⟨rfl, hs⟩
          rw [hs]
          show jw_W (js_S n) _ md_125 20 [some (.inr (.inr 13)), some (.inl k)] [.inl (jm_eds σ1 137)] σ1 _
          refine jw_W_ir rfl ?_
          refine ⟨?_, hf1, .inr hK1.2.2⟩
          rw [← jm_all_me hme1 hPm k]
          unfold jm_all
          rw [if_neg (by omega), if_pos (by omega)]
        · obtain rfl : 21 = t := by rw [hc3] at ht; exact Option.some.inj ht
          refine jw_W_n 1 (i' := 22) (ls' := [some (.inr (.inr 13)), some (.inl k)]) (st' := [.inr (.inr 13)]) rfl ?_
          refine jw_W_gf rfl rfl rfl ?_
          show jw_W (js_S n) _ md_125 23 [some (.inr (.inr 13)), some (.inl k)] [.inr (.inr 57)] σ1 _
          refine jw_W_call (as := [.inr (.inr 57)]) (rest := []) rfl rfl rfl rfl (Nat.le_of_ble_eq_true rfl) (.inr rfl) (jx_efficientCorners hK1) (by omega) ?_ rfl
          rintro r1 σz ⟨rfl, hs⟩
          rw [hs]
          show jw_W (js_S n) _ md_125 24 [some (.inr (.inr 13)), some (.inl k)] [.inl (jx_cn (fun c => jm_good σ1 c) (σ1 103 56).toNat)] σ1 _
          refine jw_W_ir rfl ?_
          refine ⟨?_, hf1, .inr hK1.2.2⟩
          rw [← jm_all_me hme1 hPm k]
          unfold jm_all
          rw [if_neg (by omega), if_neg (by omega), if_pos (by omega)]
        · obtain rfl : 25 = t := by rw [hc3] at ht; exact Option.some.inj ht
          refine jw_W_n 1 (i' := 26) (ls' := [some (.inr (.inr 13)), some (.inl k)]) (st' := [.inr (.inr 13)]) rfl ?_
          refine jw_W_gf rfl rfl rfl ?_
          show jw_W (js_S n) _ md_125 27 [some (.inr (.inr 13)), some (.inl k)] [.inr (.inr 57)] σ1 _
          refine jw_W_n 1 (i' := 28) (ls' := [some (.inr (.inr 13)), some (.inl k)]) (st' := [.inl 2, .inr (.inr 57)]) rfl ?_
          refine jw_W_call (as := [.inr (.inr 57), .inl 2]) (rest := []) rfl rfl rfl rfl (Nat.le_of_ble_eq_true rfl) (.inr rfl) (jx_links2 hK1) (by omega) ?_ rfl
          rintro r1 σz ⟨rfl, hs⟩
          rw [hs]
          show jw_W (js_S n) _ md_125 29 [some (.inr (.inr 13)), some (.inl k)] [.inl (jm_eds σ1 138)] σ1 _
          refine jw_W_ir rfl ?_
          refine ⟨?_, hf1, .inr hK1.2.2⟩
          rw [← jm_all_me hme1 hPm k]
          unfold jm_all
          rw [if_neg (by omega), if_neg (by omega), if_neg (by omega), if_pos (by omega)]
        · obtain rfl : 30 = t := by rw [hc3] at ht; exact Option.some.inj ht
          refine jw_W_n 1 (i' := 31) (ls' := [some (.inr (.inr 13)), some (.inl k)]) (st' := [.inr (.inr 13)]) rfl ?_
          refine jw_W_gf rfl rfl rfl ?_
          show jw_W (js_S n) _ md_125 32 [some (.inr (.inr 13)), some (.inl k)] [.inr (.inr 57)] σ1 _
          refine jw_W_call (as := [.inr (.inr 57)]) (rest := []) rfl rfl rfl rfl (Nat.le_of_ble_eq_true rfl) (.inr rfl) (jx_pieces hK1) (by omega) ?_ rfl
          rintro r1 σ2 ⟨rfl, hf65⟩
          have hf2 := jx_f65_y hf65
          show jw_W (js_S n) _ md_125 33 [some (.inr (.inr 13)), some (.inl k)] [.inl (jx_cn (fun c => jx_lo σ1 c) (σ1 103 56).toNat)] σ2 _
          refine jw_W_ir rfl ?_
          refine ⟨?_, jx_fx_tr hf1 (jx_fy_x hf2), (jx_K_y hf2 (jx_KJ_K hK1)).2.2⟩
          rw [← jm_all_me hme1 hPm k]
          unfold jm_all
          rw [if_neg (by omega), if_neg (by omega), if_neg (by omega), if_neg (by omega), if_pos (by omega)]
        · obtain rfl : 34 = t := by rw [hc3] at ht; exact Option.some.inj ht
          refine jw_W_n 1 (i' := 35) (ls' := [some (.inr (.inr 13)), some (.inl k)]) (st' := [.inr (.inr 13)]) rfl ?_
          refine jw_W_gf rfl rfl rfl ?_
          show jw_W (js_S n) _ md_125 36 [some (.inr (.inr 13)), some (.inl k)] [.inr (.inr 57)] σ1 _
          refine jw_W_call (as := [.inr (.inr 57)]) (rest := []) rfl rfl rfl rfl (Nat.le_of_ble_eq_true rfl) (.inr rfl) (jx_layers hK1) (by omega) ?_ rfl
          rintro r1 σz ⟨rfl, hs⟩
          rw [hs]
          show jw_W (js_S n) _ md_125 37 [some (.inr (.inr 13)), some (.inl k)] [.inl (σ1 103 59)] σ1 _
          refine jw_W_ir rfl ?_
          refine ⟨?_, hf1, .inr hK1.2.2⟩
          rw [← jm_all_me hme1 hPm k]
          unfold jm_all
          rw [if_neg (by omega), if_neg (by omega), if_neg (by omega), if_neg (by omega), if_neg (by omega), if_pos (by omega)]
        · obtain rfl : 38 = t := by rw [hc3] at ht; exact Option.some.inj ht
          refine jw_W_n 1 (i' := 39) (ls' := [some (.inr (.inr 13)), some (.inl k)]) (st' := [.inr (.inr 13)]) rfl ?_
          refine jw_W_gf rfl rfl rfl ?_
          show jw_W (js_S n) _ md_125 40 [some (.inr (.inr 13)), some (.inl k)] [.inr (.inr 57)] σ1 _
          refine jw_W_call (as := [.inr (.inr 57)]) (rest := []) rfl rfl rfl rfl (Nat.le_of_ble_eq_true rfl) (.inr rfl) (jx_weakCorners hK1) (by omega) ?_ rfl
          rintro r1 σz ⟨rfl, hs⟩
          rw [hs]
          show jw_W (js_S n) _ md_125 41 [some (.inr (.inr 13)), some (.inl k)] [.inl (jx_cn (fun c => jm_weakb σ1 c) (σ1 103 56).toNat)] σ1 _
          refine jw_W_ir rfl ?_
          refine ⟨?_, hf1, .inr hK1.2.2⟩
          rw [← jm_all_me hme1 hPm k]
          unfold jm_all
          rw [if_neg (by omega), if_neg (by omega), if_neg (by omega), if_neg (by omega), if_neg (by omega), if_neg (by omega), if_pos (by omega)]
        · obtain rfl : 42 = t := by rw [hc3] at ht; exact Option.some.inj ht
          refine jw_W_n 1 (i' := 43) (ls' := [some (.inr (.inr 13)), some (.inl k)]) (st' := [.inr (.inr 13)]) rfl ?_
          refine jw_W_gf rfl rfl rfl ?_
          show jw_W (js_S n) _ md_125 44 [some (.inr (.inr 13)), some (.inl k)] [.inr (.inr 57)] σ1 _
          refine jw_W_n 1 (i' := 45) (ls' := [some (.inr (.inr 13)), some (.inl k)]) (st' := [.inl 0, .inr (.inr 57)]) rfl ?_
          refine jw_W_call (as := [.inr (.inr 57), .inl 0]) (rest := []) rfl rfl rfl rfl (Nat.le_of_ble_eq_true rfl) (.inr rfl) (jx_faces0 (jx_KJ_K hK1)) (by omega) ?_ rfl
          rintro r1 σ2 ⟨rfl, hf2⟩
          show jw_W (js_S n) _ md_125 46 [some (.inr (.inr 13)), some (.inl k)] [.inl (jx_cn (fun c => jm_fc σ1 c) (σ1 103 5 + 2 * σ1 103 3).toNat)] σ2 _
          refine jw_W_ir rfl ?_
          refine ⟨?_, jx_fx_tr hf1 (jx_fy_x hf2), (jx_K_y hf2 (jx_KJ_K hK1)).2.2⟩
          rw [← jm_all_me hme1 hPm k]
          unfold jm_all
          rw [if_neg (by omega), if_neg (by omega), if_neg (by omega), if_neg (by omega), if_neg (by omega), if_neg (by omega), if_neg (by omega), if_pos (by omega)]
        · obtain rfl : 47 = t := by rw [hc3] at ht; exact Option.some.inj ht
          refine jw_W_n 1 (i' := 48) (ls' := [some (.inr (.inr 13)), some (.inl k)]) (st' := [.inr (.inr 13)]) rfl ?_
          refine jw_W_gf rfl rfl rfl ?_
          show jw_W (js_S n) _ md_125 49 [some (.inr (.inr 13)), some (.inl k)] [.inr (.inr 57)] σ1 _
          refine jw_W_n 1 (i' := 50) (ls' := [some (.inr (.inr 13)), some (.inl k)]) (st' := [.inl 1, .inr (.inr 57)]) rfl ?_
          refine jw_W_call (as := [.inr (.inr 57), .inl 1]) (rest := []) rfl rfl rfl rfl (Nat.le_of_ble_eq_true rfl) (.inr rfl) (jx_faces1 (jx_KJ_K hK1)) (by omega) ?_ rfl
          rintro r1 σ2 ⟨rfl, hf2⟩
          show jw_W (js_S n) _ md_125 51 [some (.inr (.inr 13)), some (.inl k)] [.inl (jx_cn (fun c => jm_gf σ1 c) (σ1 103 5 + 2 * σ1 103 3).toNat)] σ2 _
          refine jw_W_ir rfl ?_
          refine ⟨?_, jx_fx_tr hf1 (jx_fy_x hf2), (jx_K_y hf2 (jx_KJ_K hK1)).2.2⟩
          rw [← jm_all_me hme1 hPm k]
          unfold jm_all
          rw [if_neg (by omega), if_neg (by omega), if_neg (by omega), if_neg (by omega), if_neg (by omega), if_neg (by omega), if_neg (by omega), if_neg (by omega), if_pos (by omega)]
        · obtain rfl : 52 = t := by rw [hc3] at ht; exact Option.some.inj ht
          refine jw_W_n 1 (i' := 53) (ls' := [some (.inr (.inr 13)), some (.inl k)]) (st' := [.inr (.inr 13)]) rfl ?_
          refine jw_W_gf rfl rfl rfl ?_
          show jw_W (js_S n) _ md_125 54 [some (.inr (.inr 13)), some (.inl k)] [.inr (.inr 57)] σ1 _
          refine jw_W_call (as := [.inr (.inr 57)]) (rest := []) rfl rfl rfl rfl (Nat.le_of_ble_eq_true rfl) (.inr rfl) (jx_values hK1) (by omega) ?_ rfl
          rintro r1 σz ⟨rfl, hs⟩
          rw [hs]
          show jw_W (js_S n) _ md_125 55 [some (.inr (.inr 13)), some (.inl k)] [.inl (jx_cn (fun c => jm_nv σ1 c) (σ1 103 56).toNat)] σ1 _
          refine jw_W_ir rfl ?_
          refine ⟨?_, hf1, .inr hK1.2.2⟩
          rw [← jm_all_me hme1 hPm k]
          unfold jm_all
          rw [if_neg (by omega), if_neg (by omega), if_neg (by omega), if_neg (by omega), if_neg (by omega), if_neg (by omega), if_neg (by omega), if_neg (by omega), if_neg (by omega), if_pos (by omega)]
        · obtain rfl : 56 = t := by rw [hc3] at ht; exact Option.some.inj ht
          refine jw_W_n 1 (i' := 57) (ls' := [some (.inr (.inr 13)), some (.inl k)]) (st' := [.inr (.inr 13)]) rfl ?_
          refine jw_W_call (as := [.inr (.inr 13)]) (rest := []) rfl rfl rfl rfl (Nat.le_of_ble_eq_true rfl) (.inr rfl) (jx_neededKeeps (jx_KJ_K hK1)) (by omega) ?_ rfl
          rintro r1 σ2 ⟨rfl, hf2⟩
          show jw_W (js_S n) _ md_125 58 [some (.inr (.inr 13)), some (.inl k)] [.inl (jx_cn (fun c => jm_nd σ1 c) (σ1 103 5).toNat)] σ2 _
          refine jw_W_ir rfl ?_
          refine ⟨?_, jx_fx_tr hf1 (jx_fy_x hf2), (jx_K_y hf2 (jx_KJ_K hK1)).2.2⟩
          rw [← jm_all_me hme1 hPm k]
          unfold jm_all
          rw [if_neg (by omega), if_neg (by omega), if_neg (by omega), if_neg (by omega), if_neg (by omega), if_neg (by omega), if_neg (by omega), if_neg (by omega), if_neg (by omega), if_neg (by omega), if_pos (by omega)]
    · have hc2 : ¬ (k ≤ 11) := hc2
      refine jw_W_n 1 (i' := 6) (ls' := [some (.inr (.inr 13)), some (.inl k)]) (st' := [.inl ((-1))]) rfl ?_
      refine jw_W_ir rfl ?_
      refine ⟨?_, jx_fx_rf σ, hK.2.2⟩
      unfold jm_all
      rw [if_neg (by omega), if_neg (by omega), if_neg (by omega), if_neg (by omega), if_neg (by omega), if_neg (by omega), if_neg (by omega), if_neg (by omega), if_neg (by omega), if_neg (by omega), if_neg (by omega), if_neg (by omega)]

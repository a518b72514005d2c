/-! ===== weights, both sides ===== -/
theorem jm_shb {σ : jw_H} (hP : jm_Pb σ) (hb : jm_cbd σ) (h2 : σ 103 4 = 2) {i : Int} (i0 : 0 ≤ i) (i1 : i < σ 103 56) {j : Int} (j0 : 0 ≤ j) (j1 : j ≤ σ 103 56) : jm_sb (jm_sh (jm_mw σ 0 i) (jm_mw σ 1 i) j.toNat) :=
  jm_sh_sb (fun c c0 c1 => ⟨jm_mw_bd hP hb (by omega) (by omega) i0 i1 c0 (by omega), jm_mw_bd hP hb (by omega) (by omega) i0 i1 c0 (by omega)⟩)
theorem jm_sh_s {A B : Int → Int} {j : Int} (j0 : 0 ≤ j) : jm_sh A B (j + 1).toNat = jm_st (A j) (B j) (jm_sh A B j.toNat) := by
  rw [show (j + 1).toNat = j.toNat + 1 by omega]
  show jm_st (A (j.toNat : Nat)) (B (j.toNat : Nat)) _ = _
  rw [Int.toNat_of_nonneg j0]
/-- some share makes a corner best -/
def jm_hsn (σ : jw_H) (i : Int) : Prop := jm_hs (jm_mw σ 0 i) (jm_mw σ 1 i) (σ 103 56)
def jm_shn (σ : jw_H) (i : Int) : Int × Int × Int × Int := jm_sh (jm_mw σ 0 i) (jm_mw σ 1 i) (σ 103 56).toNat
theorem jm_lw_loop {n : Nat} {σ0 : jw_H} {C : List (ge_R × Int)} (hKN0 : jm_KN σ0 C) (h2 : σ0 103 4 = 2) {i : Int} (i0 : 0 ≤ i) (i1 : i < σ0 103 56) : ∀ (f : Nat) {σ : jw_H} {j ok : Int}, 0 ≤ j → j + f = σ0 103 56 → jm_f63 σ0 σ → (σ 103 60, σ 103 61, σ 103 62, σ 103 63) = jm_sh (jm_mw σ0 0 i) (jm_mw σ0 1 i) j.toNat → (ok = 1 ∧ jm_hs (jm_mw σ0 0 i) (jm_mw σ0 1 i) (j) ∨ ok = 0 ∧ ¬ jm_hs (jm_mw σ0 0 i) (jm_mw σ0 1 i) (j)) → jw_W (js_S n) 4 md_285 16 [some (.inr (.inr 103)), some (.inl i), some (.inl ok), some (.inl j)] [] σ (fun r σ' => ∃ v, r = some (.inl v) ∧ jm_f63 σ0 σ' ∧ (v = 1 ∧ (σ' 103 60, σ' 103 61, σ' 103 62, σ' 103 63) = jm_shn σ0 i ∧ jm_hsn σ0 i ∨ v = 0 ∧ ¬ jm_hsn σ0 i))
  | f, σ, j, ok, j0, hk, HZ, hst, H => by
    have ih : ∀ {σ' : jw_H} {ok' : Int}, j < σ0 103 56 → jm_f63 σ0 σ' → (σ' 103 60, σ' 103 61, σ' 103 62, σ' 103 63) = jm_sh (jm_mw σ0 0 i) (jm_mw σ0 1 i) (j + 1).toNat → (ok' = 1 ∧ jm_hs (jm_mw σ0 0 i) (jm_mw σ0 1 i) (j + 1) ∨ ok' = 0 ∧ ¬ jm_hs (jm_mw σ0 0 i) (jm_mw σ0 1 i) (j + 1)) → jw_W (js_S n) 4 md_285 16 [some (.inr (.inr 103)), some (.inl i), some (.inl ok'), some (.inl (j + 1))] [] σ' (fun r σ' => ∃ v, r = some (.inl v) ∧ jm_f63 σ0 σ' ∧ (v = 1 ∧ (σ' 103 60, σ' 103 61, σ' 103 62, σ' 103 63) = jm_shn σ0 i ∧ jm_hsn σ0 i ∨ v = 0 ∧ ¬ jm_hsn σ0 i)) := by
      intro σ' ok' g1 g2 g3 g4
      match f, hk with
      | 0, hk => omega
      | f + 1, hk => exact jm_lw_loop hKN0 h2 i0 i1 f (by omega) (by omega) g2 g3 g4
    have hP0 := hKN0.1.1
    have hcb0 := (jm_kw_cbd hKN0.1).2 σ0 (jm_fk_rf σ0)
    have hKN := jm_KN_fz (jm_f63_z hKN0 HZ) hKN0
    have e4 : σ 103 4 = σ0 103 4 := HZ.2 4 (by omega)
    have e56 : σ 103 56 = σ0 103 56 := HZ.2 56 (by omega)
    have hsb := jm_shb hP0 hcb0 h2 i0 i1 j0 (show j ≤ σ0 103 56 by omega)
    have ea : jm_mw σ 0 i j = jm_mw σ0 0 i j := by rw [jm_f63_mo HZ]
    have eb : jm_mw σ 1 i j = jm_mw σ0 1 i j := by rw [jm_f63_mo HZ]
    have hok : ok = 0 ∨ ok = 1 := by rcases H with ⟨e, -⟩ | ⟨e, -⟩ <;> omega
    have hcb := (jm_kw_cbd hKN.1).2 σ (jm_fk_rf σ)
    have hcn := hcb.1
    have hPm := hKN.1.1
    have hqq := hPm.1
    have hww := hPm.2.1
    have hkk := hPm.2.2.1
    have hg57 := hKN.2.2.1.1
    have hg58 := hKN.2.2.2.1.1
    refine jw_W_n 2 (i' := 18) (ls' := [some (.inr (.inr 103)), some (.inl i), some (.inl ok), some (.inl j)]) (st' := [.inr (.inr 103), .inl j]) rfl ?_
    refine jw_W_gf rfl rfl rfl ?_
    show jw_W (js_S n) _ md_285 19 [some (.inr (.inr 103)), some (.inl i), some (.inl ok), some (.inl j)] [.inl (σ 103 56), .inl j] σ _
    refine jw_W_ic rfl (by unfold jw_rg; omega) (by unfold jw_rg; omega) (fun hc1 => ?_) (fun hc1 => ?_)
    · have hc1 : j ≥ (σ 103 56) := hc1
      refine jw_W_n 1 (i' := 30) (ls' := [some (.inr (.inr 103)), some (.inl i), some (.inl ok), some (.inl j)]) (st' := [.inl ok]) rfl ?_
      refine jw_W_ir rfl ?_
      by_cases ek : j = σ0 103 56
      · subst ek
        rcases H with ⟨e, h⟩ | ⟨e, h⟩
        · exact ⟨_, rfl, HZ, .inl ⟨e, hst, h⟩⟩
        · exact ⟨_, rfl, HZ, .inr ⟨e, h⟩⟩
      · refine ⟨_, rfl, HZ, .inr ⟨by omega, fun hh => ?_⟩⟩
        have h1 := jm_hs_le (fun j a b => jm_shb hP0 hcb0 h2 i0 i1 a b) hh (σ0 103 56 - j).toNat (j := j) j0 (by omega)
        rcases H with ⟨e, h⟩ | ⟨e, h⟩
        · omega
        · exact h h1
    · have hc1 : ¬ (j ≥ (σ 103 56)) := hc1
      refine jw_W_n 1 (i' := 21) (ls' := [some (.inr (.inr 103)), some (.inl i), some (.inl ok), some (.inl j)]) (st' := [.inl ok]) rfl ?_
      refine jw_W_if rfl (by unfold jw_rg; omega) (fun hc2 => ?_) (fun hc2 => ?_)
      · have hc2 : ok = 0 := hc2
        refine jw_W_n 1 (i' := 30) (ls' := [some (.inr (.inr 103)), some (.inl i), some (.inl ok), some (.inl j)]) (st' := [.inl ok]) rfl ?_
        refine jw_W_ir rfl ?_
        by_cases ek : j = σ0 103 56
        · subst ek
          rcases H with ⟨e, h⟩ | ⟨e, h⟩
          · exact ⟨_, rfl, HZ, .inl ⟨e, hst, h⟩⟩
          · exact ⟨_, rfl, HZ, .inr ⟨e, h⟩⟩
        · refine ⟨_, rfl, HZ, .inr ⟨by omega, fun hh => ?_⟩⟩
          have h1 := jm_hs_le (fun j a b => jm_shb hP0 hcb0 h2 i0 i1 a b) hh (σ0 103 56 - j).toNat (j := j) j0 (by omega)
          rcases H with ⟨e, h⟩ | ⟨e, h⟩
          · omega
          · exact h h1
      · have hc2 : ¬ (ok = 0) := hc2
        refine jw_W_n 3 (i' := 25) (ls' := [some (.inr (.inr 103)), some (.inl i), some (.inl ok), some (.inl j)]) (st' := [.inl j, .inl i, .inr (.inr 103)]) rfl ?_
        refine jw_W_call (as := [.inr (.inr 103), .inl i, .inl j]) (rest := []) rfl rfl rfl rfl (Nat.le_of_ble_eq_true rfl) (.inr rfl) (jm_narrows hKN i0 (by omega) j0 (by omega) (by omega) ea eb (by rw [hst]; exact hsb)) (by omega) ?_ rfl
        rintro r1 σ1 ⟨v, rfl, hf, hst1, hv⟩
        have hv01 : v = 0 ∨ v = 1 := by rcases hv with ⟨e, -⟩ | ⟨e, -⟩ <;> omega
        show jw_W (js_S n) _ md_285 26 [some (.inr (.inr 103)), some (.inl i), some (.inl ok), some (.inl j)] [.inl v] σ1 _
        refine jw_W_n 3 (i' := 16) (ls' := [some (.inr (.inr 103)), some (.inl i), some (.inl v), some (.inl (j + 1))]) (st' := []) rfl ?_
        have H1 : jm_hs (jm_mw σ0 0 i) (jm_mw σ0 1 i) j := (H.resolve_right (fun hh => by omega)).2
        refine ih (by omega) (jm_f63_tr HZ hf) ?_ ?_
        · rw [hst1, jm_sh_s j0, hst]
        · have e := jm_hs_s j0 hsb
          rw [hst] at hv
          rcases hv with ⟨e1, hv⟩ | ⟨e1, hv⟩
          · exact .inl ⟨e1, e.mpr ⟨H1, hv⟩⟩
          · exact .inr ⟨e1, fun hh => hv (e.mp hh).2⟩
theorem jm_laysWeights {n : Nat} {σ : jw_H} {C : List (ge_R × Int)} (hKN : jm_KN σ C) {i : Int} (i0 : 0 ≤ i) (i1 : i < σ 103 56) (h2 : σ 103 4 = 2) : jw_T (js_S n) 5 285 [.inr (.inr 103), .inl i] σ (fun r σ' => ∃ v, r = some (.inl v) ∧ jm_f63 σ σ' ∧ (v = 1 ∧ (σ' 103 60, σ' 103 61, σ' 103 62, σ' 103 63) = jm_shn σ i ∧ jm_hsn σ i ∨ v = 0 ∧ ¬ jm_hsn σ i)) := by
  refine jw_T_of (D := 4) (M := mm_285) rfl (Nat.le_of_ble_eq_true rfl) (ls0 := [some (.inr (.inr 103)), some (.inl i), none, none]) rfl ?_ (by rintro _ _ ⟨v, rfl, -, ⟨rfl, -⟩ | ⟨rfl, -⟩⟩ <;> rfl)
  have hcb := (jm_kw_cbd hKN.1).2 σ (jm_fk_rf σ)
  have hcn := hcb.1
  have hPm := hKN.1.1
  have hqq := hPm.1
  have hww := hPm.2.1
  have hkk := hPm.2.2.1
  have hg57 := hKN.2.2.1.1
  have hg58 := hKN.2.2.2.1.1
  refine jw_W_n 2 (i' := 2) (ls' := [some (.inr (.inr 103)), some (.inl i), none, none]) (st' := [.inr (.inl 0), .inr (.inr 103)]) rfl ?_
  refine jw_W_pf (a := 0) rfl (by omega) rfl rfl rfl rfl rfl ?_
  refine jw_W_n 2 (i' := 5) (ls' := [some (.inr (.inr 103)), some (.inl i), none, none]) (st' := [.inr (.inl 1), .inr (.inr 103)]) rfl ?_
  refine jw_W_pf (a := 1) rfl (by omega) rfl rfl rfl rfl rfl ?_
  refine jw_W_n 2 (i' := 8) (ls' := [some (.inr (.inr 103)), some (.inl i), none, none]) (st' := [.inr (.inl 1), .inr (.inr 103)]) rfl ?_
  refine jw_W_pf (a := 1) rfl (by omega) rfl rfl rfl rfl rfl ?_
  refine jw_W_n 2 (i' := 11) (ls' := [some (.inr (.inr 103)), some (.inl i), none, none]) (st' := [.inr (.inl 1), .inr (.inr 103)]) rfl ?_
  refine jw_W_pf (a := 1) rfl (by omega) rfl rfl rfl rfl rfl ?_
  have hf0 : jm_f63 σ (jw_up (jw_up (jw_up (jw_up σ 103 60 0) 103 61 1) 103 62 1) 103 63 1) := jm_f63_up (jm_f63_up (jm_f63_up (jm_f63_up (jm_f63_rf σ) (by omega)) (by omega)) (by omega)) (by omega)
  refine jw_W_n 4 (i' := 16) (ls' := [some (.inr (.inr 103)), some (.inl i), some (.inl 1), some (.inl 0)]) (st' := []) rfl ?_
  refine jw_W_mono (jm_lw_loop (jm_KN_fz (jm_f63_z hKN hf0) hKN) (by rw [hf0.2 4 (by omega)]; exact h2) i0 (by rw [hf0.2 56 (by omega)]; exact i1) (σ 103 56).toNat (j := 0) (ok := 1) (by omega) (by rw [hf0.2 56 (by omega)]; omega) (jm_f63_rf _) rfl (.inl ⟨rfl, fun c c0 c1 => by omega, by show (0 : Int) * 1 ≤ 1 * 1; omega⟩)) ?_
  rintro r σ' ⟨v, rfl, hf, hv⟩
  have eA := fun w => jm_f63_mo hf0 w i
  have e56 : (jw_up (jw_up (jw_up (jw_up σ 103 60 0) 103 61 1) 103 62 1) 103 63 1) 103 56 = σ 103 56 := hf0.2 56 (by omega)
  unfold jm_shn jm_hsn at hv
  rw [eA, eA, e56] at hv
  exact ⟨v, rfl, jm_f63_tr hf0 hf, hv⟩

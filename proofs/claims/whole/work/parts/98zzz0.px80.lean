/-! ===== area: the reference ===== -/
theorem jk_arm_in {n : Nat} {σ0 : jw_H} {C : List (ge_R × Int)} (hKN0 : jm_KN σ0 C) (hA : jk_aP σ0 (jk_aK σ0)) {t : Int} {Q : Option jw_V → jw_H → Prop} {i : Int} (i1 : 1 ≤ i) (i2 : i < σ0 103 56) (hQ : ∀ {σ : jw_H} {x4 x5 x6 x7 x8 x9 x10 x11 x12 x13 : Option jw_V}, jk_68 σ0 σ → (σ 103 68, σ 103 69) = jx_fr (jk_aS σ0 (jk_aK σ0) (i + 1).toNat) (jk_aK σ0) → jw_W (js_S n) 3 md_319 155 [some (.inr (.inr 103)), some (.inl t), some (.inl i), some (.inl (σ0 103 56)), x4, x5, x6, x7, x8, x9, x10, x11, x12, x13] [] σ Q) : ∀ (f : Nat) {σ : jw_H} {j : Int} {x4 x5 x6 x7 x8 x9 x10 x11 x12 x13 : Option jw_V}, i < j → j + f = σ0 103 56 → jk_68 σ0 σ → (σ 103 68, σ 103 69) = jx_fr (jk_aS σ0 (jk_aK σ0) i.toNat + jk_aR σ0 (jk_aK σ0) i j.toNat) (jk_aK σ0) → jw_W (js_S n) 3 md_319 25 [some (.inr (.inr 103)), some (.inl t), some (.inl i), some (.inl j), x4, x5, x6, x7, x8, x9, x10, x11, x12, x13] [] σ Q
  | f, σ, j, x4, x5, x6, x7, x8, x9, x10, x11, x12, x13, ij, hk, HZ, H => by
    have ih : ∀ {σ' : jw_H} {x4' x5' x6' x7' x8' x9' x10' x11' x12' x13' : Option jw_V}, j < σ0 103 56 → jk_68 σ0 σ' → (σ' 103 68, σ' 103 69) = jx_fr (jk_aS σ0 (jk_aK σ0) i.toNat + jk_aR σ0 (jk_aK σ0) i (j + 1).toNat) (jk_aK σ0) → jw_W (js_S n) 3 md_319 25 [some (.inr (.inr 103)), some (.inl t), some (.inl i), some (.inl (j + 1)), x4', x5', x6', x7', x8', x9', x10', x11', x12', x13'] [] σ' Q := by
      intro σ' x4' x5' x6' x7' x8' x9' x10' x11' x12' x13' h1 h2 h3
      match f, hk with
      | 0, hk => omega
      | f + 1, hk => exact jk_arm_in hKN0 hA i1 i2 hQ f (by omega) (by omega) h2 h3
    have hKN := jm_KN_fz (jk_68_z hKN0 HZ) hKN0
    have hcb0 := (jm_kw_cbd hKN0.1).2 σ0 (jm_fk_rf σ0)
    have hcn0 := hcb0.1
    have hcb := (jm_kw_cbd hKN.1).2 σ (jm_fk_rf σ)
    have hcn := hcb.1
    have hPm := hKN.1.1
    have hqq := hPm.1
    have hww := hPm.2.1
    have hkk := hPm.2.2.1
    have hg57 := hKN.2.2.1.1
    have hg58 := hKN.2.2.2.1.1
    have e56 : σ 103 56 = σ0 103 56 := HZ.2 56 (by omega)
    have r132 : σ 132 = σ0 132 := HZ.1 132 (by omega)
    have r133 : σ 133 = σ0 133 := HZ.1 133 (by omega)
    have r135 : σ 135 = σ0 135 := HZ.1 135 (by omega)
    have ect := jm_fz_ct (jk_68_z hKN0 HZ)
    have eR : jm_R σ = jm_R σ0 := by
      unfold jm_R
      rw [jm_fz_bA (jk_68_z hKN0 HZ) hKN0.1.1, HZ.2 3 (by omega)]
    have hl56 := hKN.1.2.1.1.1
    have hm137 := hKN.2.1.1 i (by omega) (by omega)
    refine jw_W_n 2 (i' := 27) (ls' := [some (.inr (.inr 103)), some (.inl t), some (.inl i), some (.inl j), x4, x5, x6, x7, x8, x9, x10, x11, x12, x13]) (st' := [.inr (.inr 103), .inl j]) rfl ?_
    refine jw_W_gf rfl rfl rfl ?_
    show jw_W (js_S n) _ md_319 28 [some (.inr (.inr 103)), some (.inl t), some (.inl i), some (.inl j), x4, x5, x6, x7, x8, x9, x10, x11, x12, x13] [.inl (σ 103 56), .inl j] σ _
    refine jw_W_ic rfl (by unfold jw_rg; omega) (by unfold jw_rg; omega) (fun hc1 => ?_) (fun hc1 => ?_)
    · have hc1 : j ≥ (σ 103 56) := hc1
      have hkl : j = σ0 103 56 := by omega
      subst hkl
      exact hQ HZ (by rw [H, jk_aS_s i1])
    · have hc1 : ¬ (j ≥ (σ 103 56)) := hc1
      refine jw_W_n 1 (i' := 30) (ls' := [some (.inr (.inr 103)), some (.inl t), some (.inl i), some (.inl j), x4, x5, x6, x7, x8, x9, x10, x11, x12, x13]) (st' := [.inr (.inr 103)]) rfl ?_
      refine jw_W_gf rfl rfl rfl ?_
      show jw_W (js_S n) _ md_319 31 [some (.inr (.inr 103)), some (.inl t), some (.inl i), some (.inl j), x4, x5, x6, x7, x8, x9, x10, x11, x12, x13] [.inr (.inr 137)] σ _
      refine jw_W_n 1 (i' := 32) (ls' := [some (.inr (.inr 103)), some (.inl t), some (.inl i), some (.inl j), x4, x5, x6, x7, x8, x9, x10, x11, x12, x13]) (st' := [.inl i, .inr (.inr 137)]) rfl ?_
      refine jw_W_ia rfl rfl (by omega) (by omega) (by omega) ?_
      show jw_W (js_S n) _ md_319 33 [some (.inr (.inr 103)), some (.inl t), some (.inl i), some (.inl j), x4, x5, x6, x7, x8, x9, x10, x11, x12, x13] [.inl (σ 137 i)] σ _
      refine jw_W_n 1 (i' := 34) (ls' := [some (.inr (.inr 103)), some (.inl t), some (.inl i), some (.inl j), x4, x5, x6, x7, x8, x9, x10, x11, x12, x13]) (st' := [.inl j, .inl (σ 137 i)]) rfl ?_
      refine jw_W_call (as := [.inl (σ 137 i), .inl j]) (rest := []) rfl rfl rfl rfl (Nat.le_of_ble_eq_true rfl) (.inl rfl) (jm_has hm137.1 (by have := hm137.2; omega) (by omega) (by omega)) (by omega) ?_ rfl
      rintro r1 σz (⟨rfl, hs, hg⟩ | ⟨rfl, hs, hg⟩)
      · rw [hs]
        have hlk : jk_lk σ0 i j := ⟨ij, by have hh := ((jx_nx1 hKN (i := i) (c := j) (by omega) (by omega) (by omega)).mp hg).2.2; unfold jm_E1 at hh ⊢; rw [eR, ect, ect] at hh; exact hh⟩
        have hpt := jk_pt hcb0 hA i1 ij (by omega) hlk
        have hdv := hA.2.1 i j i1 (by omega) hlk
        have hlb := jk_l_bd hcb0 (i := i) (j := j) (by omega) (by omega) (by omega) (by omega)
        have hcr := jk_cr_bd hcb0 (i := i) (j := j) (by omega) (by omega) (by omega) (by omega)
        have hu0 := jk_u_0 σ0 i j
        have hu1 : jk_u σ0 i j ≤ 200000000000 := by unfold jk_u; split <;> omega
        show jw_W (js_S n) _ md_319 35 [some (.inr (.inr 103)), some (.inl t), some (.inl i), some (.inl j), x4, x5, x6, x7, x8, x9, x10, x11, x12, x13] [.inl 1] σ _
        refine jw_W_if rfl (by unfold jw_rg; omega) (fun hc2 => ?_) (fun hc2 => ?_)
        · exact absurd hc2 (show ¬ ((1 : Int) = 0) by omega)
        · clear hc2
          refine jw_W_n 1 (i' := 37) (ls' := [some (.inr (.inr 103)), some (.inl t), some (.inl i), some (.inl j), x4, x5, x6, x7, x8, x9, x10, x11, x12, x13]) (st' := [.inr (.inr 103)]) rfl ?_
          refine jw_W_gf rfl rfl rfl ?_
          show jw_W (js_S n) _ md_319 38 [some (.inr (.inr 103)), some (.inl t), some (.inl i), some (.inl j), x4, x5, x6, x7, x8, x9, x10, x11, x12, x13] [.inr (.inr 132)] σ _
          refine jw_W_n 1 (i' := 39) (ls' := [some (.inr (.inr 103)), some (.inl t), some (.inl i), some (.inl j), x4, x5, x6, x7, x8, x9, x10, x11, x12, x13]) (st' := [.inl i, .inr (.inr 132)]) rfl ?_
          refine jw_W_la rfl rfl (by omega) (by omega) (by omega) ?_
          show jw_W (js_S n) _ md_319 40 [some (.inr (.inr 103)), some (.inl t), some (.inl i), some (.inl j), x4, x5, x6, x7, x8, x9, x10, x11, x12, x13] [.inr (.inl (σ 132 i))] σ _
          refine jw_W_n 1 (i' := 41) (ls' := [some (.inr (.inr 103)), some (.inl t), some (.inl i), some (.inl j), x4, x5, x6, x7, x8, x9, x10, x11, x12, x13]) (st' := [.inr (.inr 103), .inr (.inl (σ 132 i))]) rfl ?_
          refine jw_W_gf rfl rfl rfl ?_
          show jw_W (js_S n) _ md_319 42 [some (.inr (.inr 103)), some (.inl t), some (.inl i), some (.inl j), x4, x5, x6, x7, x8, x9, x10, x11, x12, x13] [.inr (.inr 135), .inr (.inl (σ 132 i))] σ _
          refine jw_W_n 1 (i' := 43) (ls' := [some (.inr (.inr 103)), some (.inl t), some (.inl i), some (.inl j), x4, x5, x6, x7, x8, x9, x10, x11, x12, x13]) (st' := [.inl 0, .inr (.inr 135), .inr (.inl (σ 132 i))]) rfl ?_
          refine jw_W_la rfl rfl (by omega) (by omega) (by omega) ?_
          show jw_W (js_S n) _ md_319 44 [some (.inr (.inr 103)), some (.inl t), some (.inl i), some (.inl j), x4, x5, x6, x7, x8, x9, x10, x11, x12, x13] [.inr (.inl (σ 135 0)), .inr (.inl (σ 132 i))] σ _
          refine jw_W_n 2 (i' := 46) (ls' := [some (.inr (.inr 103)), some (.inl t), some (.inl i), some (.inl j), x4, x5, x6, x7, x8, x9, x10, x11, x12, x13]) (st' := [.inr (.inr 103), .inr (.inl ((σ 132 i) * (σ 135 0)))]) rfl ?_
          refine jw_W_gf rfl rfl rfl ?_
          show jw_W (js_S n) _ md_319 47 [some (.inr (.inr 103)), some (.inl t), some (.inl i), some (.inl j), x4, x5, x6, x7, x8, x9, x10, x11, x12, x13] [.inr (.inr 132), .inr (.inl ((σ 132 i) * (σ 135 0)))] σ _
          refine jw_W_n 1 (i' := 48) (ls' := [some (.inr (.inr 103)), some (.inl t), some (.inl i), some (.inl j), x4, x5, x6, x7, x8, x9, x10, x11, x12, x13]) (st' := [.inl 0, .inr (.inr 132), .inr (.inl ((σ 132 i) * (σ 135 0)))]) rfl ?_
          refine jw_W_la rfl rfl (by omega) (by omega) (by omega) ?_
          show jw_W (js_S n) _ md_319 49 [some (.inr (.inr 103)), some (.inl t), some (.inl i), some (.inl j), x4, x5, x6, x7, x8, x9, x10, x11, x12, x13] [.inr (.inl (σ 132 0)), .inr (.inl ((σ 132 i) * (σ 135 0)))] σ _
          refine jw_W_n 1 (i' := 50) (ls' := [some (.inr (.inr 103)), some (.inl t), some (.inl i), some (.inl j), x4, x5, x6, x7, x8, x9, x10, x11, x12, x13]) (st' := [.inr (.inr 103), .inr (.inl (σ 132 0)), .inr (.inl ((σ 132 i) * (σ 135 0)))]) rfl ?_
          refine jw_W_gf rfl rfl rfl ?_
          show jw_W (js_S n) _ md_319 51 [some (.inr (.inr 103)), some (.inl t), some (.inl i), some (.inl j), x4, x5, x6, x7, x8, x9, x10, x11, x12, x13] [.inr (.inr 135), .inr (.inl (σ 132 0)), .inr (.inl ((σ 132 i) * (σ 135 0)))] σ _
          refine jw_W_n 1 (i' := 52) (ls' := [some (.inr (.inr 103)), some (.inl t), some (.inl i), some (.inl j), x4, x5, x6, x7, x8, x9, x10, x11, x12, x13]) (st' := [.inl i, .inr (.inr 135), .inr (.inl (σ 132 0)), .inr (.inl ((σ 132 i) * (σ 135 0)))]) rfl ?_
          refine jw_W_la rfl rfl (by omega) (by omega) (by omega) ?_
          show jw_W (js_S n) _ md_319 53 [some (.inr (.inr 103)), some (.inl t), some (.inl i), some (.inl j), x4, x5, x6, x7, x8, x9, x10, x11, x12, x13] [.inr (.inl (σ 135 i)), .inr (.inl (σ 132 0)), .inr (.inl ((σ 132 i) * (σ 135 0)))] σ _
          refine jw_W_n 4 (i' := 57) (ls' := [some (.inr (.inr 103)), some (.inl t), some (.inl i), some (.inl j), some (.inr (.inl (((σ 132 i) * (σ 135 0)) - ((σ 132 0) * (σ 135 i))))), none, x6, x7, x8, x9, x10, x11, x12, x13]) (st' := [.inr (.inr 103)]) rfl ?_
          refine jw_W_gf rfl rfl rfl ?_
          show jw_W (js_S n) _ md_319 58 [some (.inr (.inr 103)), some (.inl t), some (.inl i), some (.inl j), some (.inr (.inl (((σ 132 i) * (σ 135 0)) - ((σ 132 0) * (σ 135 i))))), none, x6, x7, x8, x9, x10, x11, x12, x13] [.inr (.inr 133)] σ _
          refine jw_W_n 1 (i' := 59) (ls' := [some (.inr (.inr 103)), some (.inl t), some (.inl i), some (.inl j), some (.inr (.inl (((σ 132 i) * (σ 135 0)) - ((σ 132 0) * (σ 135 i))))), none, x6, x7, x8, x9, x10, x11, x12, x13]) (st' := [.inl i, .inr (.inr 133)]) rfl ?_
          refine jw_W_la rfl rfl (by omega) (by omega) (by omega) ?_
          show jw_W (js_S n) _ md_319 60 [some (.inr (.inr 103)), some (.inl t), some (.inl i), some (.inl j), some (.inr (.inl (((σ 132 i) * (σ 135 0)) - ((σ 132 0) * (σ 135 i))))), none, x6, x7, x8, x9, x10, x11, x12, x13] [.inr (.inl (σ 133 i))] σ _
          refine jw_W_n 1 (i' := 61) (ls' := [some (.inr (.inr 103)), some (.inl t), some (.inl i), some (.inl j), some (.inr (.inl (((σ 132 i) * (σ 135 0)) - ((σ 132 0) * (σ 135 i))))), none, x6, x7, x8, x9, x10, x11, x12, x13]) (st' := [.inr (.inr 103), .inr (.inl (σ 133 i))]) rfl ?_
          refine jw_W_gf rfl rfl rfl ?_
          show jw_W (js_S n) _ md_319 62 [some (.inr (.inr 103)), some (.inl t), some (.inl i), some (.inl j), some (.inr (.inl (((σ 132 i) * (σ 135 0)) - ((σ 132 0) * (σ 135 i))))), none, x6, x7, x8, x9, x10, x11, x12, x13] [.inr (.inr 135), .inr (.inl (σ 133 i))] σ _
          refine jw_W_n 1 (i' := 63) (ls' := [some (.inr (.inr 103)), some (.inl t), some (.inl i), some (.inl j), some (.inr (.inl (((σ 132 i) * (σ 135 0)) - ((σ 132 0) * (σ 135 i))))), none, x6, x7, x8, x9, x10, x11, x12, x13]) (st' := [.inl 0, .inr (.inr 135), .inr (.inl (σ 133 i))]) rfl ?_
          refine jw_W_la rfl rfl (by omega) (by omega) (by omega) ?_
          show jw_W (js_S n) _ md_319 64 [some (.inr (.inr 103)), some (.inl t), some (.inl i), some (.inl j), some (.inr (.inl (((σ 132 i) * (σ 135 0)) - ((σ 132 0) * (σ 135 i))))), none, x6, x7, x8, x9, x10, x11, x12, x13] [.inr (.inl (σ 135 0)), .inr (.inl (σ 133 i))] σ _
          refine jw_W_n 2 (i' := 66) (ls' := [some (.inr (.inr 103)), some (.inl t), some (.inl i), some (.inl j), some (.inr (.inl (((σ 132 i) * (σ 135 0)) - ((σ 132 0) * (σ 135 i))))), none, x6, x7, x8, x9, x10, x11, x12, x13]) (st' := [.inr (.inr 103), .inr (.inl ((σ 133 i) * (σ 135 0)))]) rfl ?_
          refine jw_W_gf rfl rfl rfl ?_
          show jw_W (js_S n) _ md_319 67 [some (.inr (.inr 103)), some (.inl t), some (.inl i), some (.inl j), some (.inr (.inl (((σ 132 i) * (σ 135 0)) - ((σ 132 0) * (σ 135 i))))), none, x6, x7, x8, x9, x10, x11, x12, x13] [.inr (.inr 133), .inr (.inl ((σ 133 i) * (σ 135 0)))] σ _
          refine jw_W_n 1 (i' := 68) (ls' := [some (.inr (.inr 103)), some (.inl t), some (.inl i), some (.inl j), some (.inr (.inl (((σ 132 i) * (σ 135 0)) - ((σ 132 0) * (σ 135 i))))), none, x6, x7, x8, x9, x10, x11, x12, x13]) (st' := [.inl 0, .inr (.inr 133), .inr (.inl ((σ 133 i) * (σ 135 0)))]) rfl ?_
          refine jw_W_la rfl rfl (by omega) (by omega) (by omega) ?_
          show jw_W (js_S n) _ md_319 69 [some (.inr (.inr 103)), some (.inl t), some (.inl i), some (.inl j), some (.inr (.inl (((σ 132 i) * (σ 135 0)) - ((σ 132 0) * (σ 135 i))))), none, x6, x7, x8, x9, x10, x11, x12, x13] [.inr (.inl (σ 133 0)), .inr (.inl ((σ 133 i) * (σ 135 0)))] σ _
          refine jw_W_n 1 (i' := 70) (ls' := [some (.inr (.inr 103)), some (.inl t), some (.inl i), some (.inl j), some (.inr (.inl (((σ 132 i) * (σ 135 0)) - ((σ 132 0) * (σ 135 i))))), none, x6, x7, x8, x9, x10, x11, x12, x13]) (st' := [.inr (.inr 103), .inr (.inl (σ 133 0)), .inr (.inl ((σ 133 i) * (σ 135 0)))]) rfl ?_
          refine jw_W_gf rfl rfl rfl ?_
          show jw_W (js_S n) _ md_319 71 [some (.inr (.inr 103)), some (.inl t), some (.inl i), some (.inl j), some (.inr (.inl (((σ 132 i) * (σ 135 0)) - ((σ 132 0) * (σ 135 i))))), none, x6, x7, x8, x9, x10, x11, x12, x13] [.inr (.inr 135), .inr (.inl (σ 133 0)), .inr (.inl ((σ 133 i) * (σ 135 0)))] σ _
          refine jw_W_n 1 (i' := 72) (ls' := [some (.inr (.inr 103)), some (.inl t), some (.inl i), some (.inl j), some (.inr (.inl (((σ 132 i) * (σ 135 0)) - ((σ 132 0) * (σ 135 i))))), none, x6, x7, x8, x9, x10, x11, x12, x13]) (st' := [.inl i, .inr (.inr 135), .inr (.inl (σ 133 0)), .inr (.inl ((σ 133 i) * (σ 135 0)))]) rfl ?_
          refine jw_W_la rfl rfl (by omega) (by omega) (by omega) ?_
          show jw_W (js_S n) _ md_319 73 [some (.inr (.inr 103)), some (.inl t), some (.inl i), some (.inl j), some (.inr (.inl (((σ 132 i) * (σ 135 0)) - ((σ 132 0) * (σ 135 i))))), none, x6, x7, x8, x9, x10, x11, x12, x13] [.inr (.inl (σ 135 i)), .inr (.inl (σ 133 0)), .inr (.inl ((σ 133 i) * (σ 135 0)))] σ _
          refine jw_W_n 4 (i' := 77) (ls' := [some (.inr (.inr 103)), some (.inl t), some (.inl i), some (.inl j), some (.inr (.inl (((σ 132 i) * (σ 135 0)) - ((σ 132 0) * (σ 135 i))))), none, some (.inr (.inl (((σ 133 i) * (σ 135 0)) - ((σ 133 0) * (σ 135 i))))), none, x8, x9, x10, x11, x12, x13]) (st' := [.inr (.inr 103)]) rfl ?_
          refine jw_W_gf rfl rfl rfl ?_
          show jw_W (js_S n) _ md_319 78 [some (.inr (.inr 103)), some (.inl t), some (.inl i), some (.inl j), some (.inr (.inl (((σ 132 i) * (σ 135 0)) - ((σ 132 0) * (σ 135 i))))), none, some (.inr (.inl (((σ 133 i) * (σ 135 0)) - ((σ 133 0) * (σ 135 i))))), none, x8, x9, x10, x11, x12, x13] [.inr (.inr 132)] σ _
          refine jw_W_n 1 (i' := 79) (ls' := [some (.inr (.inr 103)), some (.inl t), some (.inl i), some (.inl j), some (.inr (.inl (((σ 132 i) * (σ 135 0)) - ((σ 132 0) * (σ 135 i))))), none, some (.inr (.inl (((σ 133 i) * (σ 135 0)) - ((σ 133 0) * (σ 135 i))))), none, x8, x9, x10, x11, x12, x13]) (st' := [.inl j, .inr (.inr 132)]) rfl ?_
          refine jw_W_la rfl rfl (by omega) (by omega) (by omega) ?_
          show jw_W (js_S n) _ md_319 80 [some (.inr (.inr 103)), some (.inl t), some (.inl i), some (.inl j), some (.inr (.inl (((σ 132 i) * (σ 135 0)) - ((σ 132 0) * (σ 135 i))))), none, some (.inr (.inl (((σ 133 i) * (σ 135 0)) - ((σ 133 0) * (σ 135 i))))), none, x8, x9, x10, x11, x12, x13] [.inr (.inl (σ 132 j))] σ _
          refine jw_W_n 1 (i' := 81) (ls' := [some (.inr (.inr 103)), some (.inl t), some (.inl i), some (.inl j), some (.inr (.inl (((σ 132 i) * (σ 135 0)) - ((σ 132 0) * (σ 135 i))))), none, some (.inr (.inl (((σ 133 i) * (σ 135 0)) - ((σ 133 0) * (σ 135 i))))), none, x8, x9, x10, x11, x12, x13]) (st' := [.inr (.inr 103), .inr (.inl (σ 132 j))]) rfl ?_
          refine jw_W_gf rfl rfl rfl ?_
          show jw_W (js_S n) _ md_319 82 [some (.inr (.inr 103)), some (.inl t), some (.inl i), some (.inl j), some (.inr (.inl (((σ 132 i) * (σ 135 0)) - ((σ 132 0) * (σ 135 i))))), none, some (.inr (.inl (((σ 133 i) * (σ 135 0)) - ((σ 133 0) * (σ 135 i))))), none, x8, x9, x10, x11, x12, x13] [.inr (.inr 135), .inr (.inl (σ 132 j))] σ _
          refine jw_W_n 1 (i' := 83) (ls' := [some (.inr (.inr 103)), some (.inl t), some (.inl i), some (.inl j), some (.inr (.inl (((σ 132 i) * (σ 135 0)) - ((σ 132 0) * (σ 135 i))))), none, some (.inr (.inl (((σ 133 i) * (σ 135 0)) - ((σ 133 0) * (σ 135 i))))), none, x8, x9, x10, x11, x12, x13]) (st' := [.inl 0, .inr (.inr 135), .inr (.inl (σ 132 j))]) rfl ?_
          refine jw_W_la rfl rfl (by omega) (by omega) (by omega) ?_
          show jw_W (js_S n) _ md_319 84 [some (.inr (.inr 103)), some (.inl t), some (.inl i), some (.inl j), some (.inr (.inl (((σ 132 i) * (σ 135 0)) - ((σ 132 0) * (σ 135 i))))), none, some (.inr (.inl (((σ 133 i) * (σ 135 0)) - ((σ 133 0) * (σ 135 i))))), none, x8, x9, x10, x11, x12, x13] [.inr (.inl (σ 135 0)), .inr (.inl (σ 132 j))] σ _
          refine jw_W_n 2 (i' := 86) (ls' := [some (.inr (.inr 103)), some (.inl t), some (.inl i), some (.inl j), some (.inr (.inl (((σ 132 i) * (σ 135 0)) - ((σ 132 0) * (σ 135 i))))), none, some (.inr (.inl (((σ 133 i) * (σ 135 0)) - ((σ 133 0) * (σ 135 i))))), none, x8, x9, x10, x11, x12, x13]) (st' := [.inr (.inr 103), .inr (.inl ((σ 132 j) * (σ 135 0)))]) rfl ?_
          refine jw_W_gf rfl rfl rfl ?_
          show jw_W (js_S n) _ md_319 87 [some (.inr (.inr 103)), some (.inl t), some (.inl i), some (.inl j), some (.inr (.inl (((σ 132 i) * (σ 135 0)) - ((σ 132 0) * (σ 135 i))))), none, some (.inr (.inl (((σ 133 i) * (σ 135 0)) - ((σ 133 0) * (σ 135 i))))), none, x8, x9, x10, x11, x12, x13] [.inr (.inr 132), .inr (.inl ((σ 132 j) * (σ 135 0)))] σ _
          refine jw_W_n 1 (i' := 88) (ls' := [some (.inr (.inr 103)), some (.inl t), some (.inl i), some (.inl j), some (.inr (.inl (((σ 132 i) * (σ 135 0)) - ((σ 132 0) * (σ 135 i))))), none, some (.inr (.inl (((σ 133 i) * (σ 135 0)) - ((σ 133 0) * (σ 135 i))))), none, x8, x9, x10, x11, x12, x13]) (st' := [.inl 0, .inr (.inr 132), .inr (.inl ((σ 132 j) * (σ 135 0)))]) rfl ?_
          refine jw_W_la rfl rfl (by omega) (by omega) (by omega) ?_
          show jw_W (js_S n) _ md_319 89 [some (.inr (.inr 103)), some (.inl t), some (.inl i), some (.inl j), some (.inr (.inl (((σ 132 i) * (σ 135 0)) - ((σ 132 0) * (σ 135 i))))), none, some (.inr (.inl (((σ 133 i) * (σ 135 0)) - ((σ 133 0) * (σ 135 i))))), none, x8, x9, x10, x11, x12, x13] [.inr (.inl (σ 132 0)), .inr (.inl ((σ 132 j) * (σ 135 0)))] σ _
          refine jw_W_n 1 (i' := 90) (ls' := [some (.inr (.inr 103)), some (.inl t), some (.inl i), some (.inl j), some (.inr (.inl (((σ 132 i) * (σ 135 0)) - ((σ 132 0) * (σ 135 i))))), none, some (.inr (.inl (((σ 133 i) * (σ 135 0)) - ((σ 133 0) * (σ 135 i))))), none, x8, x9, x10, x11, x12, x13]) (st' := [.inr (.inr 103), .inr (.inl (σ 132 0)), .inr (.inl ((σ 132 j) * (σ 135 0)))]) rfl ?_
          refine jw_W_gf rfl rfl rfl ?_
          show jw_W (js_S n) _ md_319 91 [some (.inr (.inr 103)), some (.inl t), some (.inl i), some (.inl j), some (.inr (.inl (((σ 132 i) * (σ 135 0)) - ((σ 132 0) * (σ 135 i))))), none, some (.inr (.inl (((σ 133 i) * (σ 135 0)) - ((σ 133 0) * (σ 135 i))))), none, x8, x9, x10, x11, x12, x13] [.inr (.inr 135), .inr (.inl (σ 132 0)), .inr (.inl ((σ 132 j) * (σ 135 0)))] σ _
          refine jw_W_n 1 (i' := 92) (ls' := [some (.inr (.inr 103)), some (.inl t), some (.inl i), some (.inl j), some (.inr (.inl (((σ 132 i) * (σ 135 0)) - ((σ 132 0) * (σ 135 i))))), none, some (.inr (.inl (((σ 133 i) * (σ 135 0)) - ((σ 133 0) * (σ 135 i))))), none, x8, x9, x10, x11, x12, x13]) (st' := [.inl j, .inr (.inr 135), .inr (.inl (σ 132 0)), .inr (.inl ((σ 132 j) * (σ 135 0)))]) rfl ?_
          refine jw_W_la rfl rfl (by omega) (by omega) (by omega) ?_
          show jw_W (js_S n) _ md_319 93 [some (.inr (.inr 103)), some (.inl t), some (.inl i), some (.inl j), some (.inr (.inl (((σ 132 i) * (σ 135 0)) - ((σ 132 0) * (σ 135 i))))), none, some (.inr (.inl (((σ 133 i) * (σ 135 0)) - ((σ 133 0) * (σ 135 i))))), none, x8, x9, x10, x11, x12, x13] [.inr (.inl (σ 135 j)), .inr (.inl (σ 132 0)), .inr (.inl ((σ 132 j) * (σ 135 0)))] σ _
          refine jw_W_n 4 (i' := 97) (ls' := [some (.inr (.inr 103)), some (.inl t), some (.inl i), some (.inl j), some (.inr (.inl (((σ 132 i) * (σ 135 0)) - ((σ 132 0) * (σ 135 i))))), none, some (.inr (.inl (((σ 133 i) * (σ 135 0)) - ((σ 133 0) * (σ 135 i))))), none, some (.inr (.inl (((σ 132 j) * (σ 135 0)) - ((σ 132 0) * (σ 135 j))))), none, x10, x11, x12, x13]) (st' := [.inr (.inr 103)]) rfl ?_
          refine jw_W_gf rfl rfl rfl ?_
          show jw_W (js_S n) _ md_319 98 [some (.inr (.inr 103)), some (.inl t), some (.inl i), some (.inl j), some (.inr (.inl (((σ 132 i) * (σ 135 0)) - ((σ 132 0) * (σ 135 i))))), none, some (.inr (.inl (((σ 133 i) * (σ 135 0)) - ((σ 133 0) * (σ 135 i))))), none, some (.inr (.inl (((σ 132 j) * (σ 135 0)) - ((σ 132 0) * (σ 135 j))))), none, x10, x11, x12, x13] [.inr (.inr 133)] σ _
          refine jw_W_n 1 (i' := 99) (ls' := [some (.inr (.inr 103)), some (.inl t), some (.inl i), some (.inl j), some (.inr (.inl (((σ 132 i) * (σ 135 0)) - ((σ 132 0) * (σ 135 i))))), none, some (.inr (.inl (((σ 133 i) * (σ 135 0)) - ((σ 133 0) * (σ 135 i))))), none, some (.inr (.inl (((σ 132 j) * (σ 135 0)) - ((σ 132 0) * (σ 135 j))))), none, x10, x11, x12, x13]) (st' := [.inl j, .inr (.inr 133)]) rfl ?_
          refine jw_W_la rfl rfl (by omega) (by omega) (by omega) ?_
          show jw_W (js_S n) _ md_319 100 [some (.inr (.inr 103)), some (.inl t), some (.inl i), some (.inl j), some (.inr (.inl (((σ 132 i) * (σ 135 0)) - ((σ 132 0) * (σ 135 i))))), none, some (.inr (.inl (((σ 133 i) * (σ 135 0)) - ((σ 133 0) * (σ 135 i))))), none, some (.inr (.inl (((σ 132 j) * (σ 135 0)) - ((σ 132 0) * (σ 135 j))))), none, x10, x11, x12, x13] [.inr (.inl (σ 133 j))] σ _
          refine jw_W_n 1 (i' := 101) (ls' := [some (.inr (.inr 103)), some (.inl t), some (.inl i), some (.inl j), some (.inr (.inl (((σ 132 i) * (σ 135 0)) - ((σ 132 0) * (σ 135 i))))), none, some (.inr (.inl (((σ 133 i) * (σ 135 0)) - ((σ 133 0) * (σ 135 i))))), none, some (.inr (.inl (((σ 132 j) * (σ 135 0)) - ((σ 132 0) * (σ 135 j))))), none, x10, x11, x12, x13]) (st' := [.inr (.inr 103), .inr (.inl (σ 133 j))]) rfl ?_
          refine jw_W_gf rfl rfl rfl ?_
          show jw_W (js_S n) _ md_319 102 [some (.inr (.inr 103)), some (.inl t), some (.inl i), some (.inl j), some (.inr (.inl (((σ 132 i) * (σ 135 0)) - ((σ 132 0) * (σ 135 i))))), none, some (.inr (.inl (((σ 133 i) * (σ 135 0)) - ((σ 133 0) * (σ 135 i))))), none, some (.inr (.inl (((σ 132 j) * (σ 135 0)) - ((σ 132 0) * (σ 135 j))))), none, x10, x11, x12, x13] [.inr (.inr 135), .inr (.inl (σ 133 j))] σ _
          refine jw_W_n 1 (i' := 103) (ls' := [some (.inr (.inr 103)), some (.inl t), some (.inl i), some (.inl j), some (.inr (.inl (((σ 132 i) * (σ 135 0)) - ((σ 132 0) * (σ 135 i))))), none, some (.inr (.inl (((σ 133 i) * (σ 135 0)) - ((σ 133 0) * (σ 135 i))))), none, some (.inr (.inl (((σ 132 j) * (σ 135 0)) - ((σ 132 0) * (σ 135 j))))), none, x10, x11, x12, x13]) (st' := [.inl 0, .inr (.inr 135), .inr (.inl (σ 133 j))]) rfl ?_
          refine jw_W_la rfl rfl (by omega) (by omega) (by omega) ?_
          show jw_W (js_S n) _ md_319 104 [some (.inr (.inr 103)), some (.inl t), some (.inl i), some (.inl j), some (.inr (.inl (((σ 132 i) * (σ 135 0)) - ((σ 132 0) * (σ 135 i))))), none, some (.inr (.inl (((σ 133 i) * (σ 135 0)) - ((σ 133 0) * (σ 135 i))))), none, some (.inr (.inl (((σ 132 j) * (σ 135 0)) - ((σ 132 0) * (σ 135 j))))), none, x10, x11, x12, x13] [.inr (.inl (σ 135 0)), .inr (.inl (σ 133 j))] σ _
          refine jw_W_n 2 (i' := 106) (ls' := [some (.inr (.inr 103)), some (.inl t), some (.inl i), some (.inl j), some (.inr (.inl (((σ 132 i) * (σ 135 0)) - ((σ 132 0) * (σ 135 i))))), none, some (.inr (.inl (((σ 133 i) * (σ 135 0)) - ((σ 133 0) * (σ 135 i))))), none, some (.inr (.inl (((σ 132 j) * (σ 135 0)) - ((σ 132 0) * (σ 135 j))))), none, x10, x11, x12, x13]) (st' := [.inr (.inr 103), .inr (.inl ((σ 133 j) * (σ 135 0)))]) rfl ?_
          refine jw_W_gf rfl rfl rfl ?_
          show jw_W (js_S n) _ md_319 107 [some (.inr (.inr 103)), some (.inl t), some (.inl i), some (.inl j), some (.inr (.inl (((σ 132 i) * (σ 135 0)) - ((σ 132 0) * (σ 135 i))))), none, some (.inr (.inl (((σ 133 i) * (σ 135 0)) - ((σ 133 0) * (σ 135 i))))), none, some (.inr (.inl (((σ 132 j) * (σ 135 0)) - ((σ 132 0) * (σ 135 j))))), none, x10, x11, x12, x13] [.inr (.inr 133), .inr (.inl ((σ 133 j) * (σ 135 0)))] σ _
          refine jw_W_n 1 (i' := 108) (ls' := [some (.inr (.inr 103)), some (.inl t), some (.inl i), some (.inl j), some (.inr (.inl (((σ 132 i) * (σ 135 0)) - ((σ 132 0) * (σ 135 i))))), none, some (.inr (.inl (((σ 133 i) * (σ 135 0)) - ((σ 133 0) * (σ 135 i))))), none, some (.inr (.inl (((σ 132 j) * (σ 135 0)) - ((σ 132 0) * (σ 135 j))))), none, x10, x11, x12, x13]) (st' := [.inl 0, .inr (.inr 133), .inr (.inl ((σ 133 j) * (σ 135 0)))]) rfl ?_
          refine jw_W_la rfl rfl (by omega) (by omega) (by omega) ?_
          show jw_W (js_S n) _ md_319 109 [some (.inr (.inr 103)), some (.inl t), some (.inl i), some (.inl j), some (.inr (.inl (((σ 132 i) * (σ 135 0)) - ((σ 132 0) * (σ 135 i))))), none, some (.inr (.inl (((σ 133 i) * (σ 135 0)) - ((σ 133 0) * (σ 135 i))))), none, some (.inr (.inl (((σ 132 j) * (σ 135 0)) - ((σ 132 0) * (σ 135 j))))), none, x10, x11, x12, x13] [.inr (.inl (σ 133 0)), .inr (.inl ((σ 133 j) * (σ 135 0)))] σ _
          refine jw_W_n 1 (i' := 110) (ls' := [some (.inr (.inr 103)), some (.inl t), some (.inl i), some (.inl j), some (.inr (.inl (((σ 132 i) * (σ 135 0)) - ((σ 132 0) * (σ 135 i))))), none, some (.inr (.inl (((σ 133 i) * (σ 135 0)) - ((σ 133 0) * (σ 135 i))))), none, some (.inr (.inl (((σ 132 j) * (σ 135 0)) - ((σ 132 0) * (σ 135 j))))), none, x10, x11, x12, x13]) (st' := [.inr (.inr 103), .inr (.inl (σ 133 0)), .inr (.inl ((σ 133 j) * (σ 135 0)))]) rfl ?_
          refine jw_W_gf rfl rfl rfl ?_
          show jw_W (js_S n) _ md_319 111 [some (.inr (.inr 103)), some (.inl t), some (.inl i), some (.inl j), some (.inr (.inl (((σ 132 i) * (σ 135 0)) - ((σ 132 0) * (σ 135 i))))), none, some (.inr (.inl (((σ 133 i) * (σ 135 0)) - ((σ 133 0) * (σ 135 i))))), none, some (.inr (.inl (((σ 132 j) * (σ 135 0)) - ((σ 132 0) * (σ 135 j))))), none, x10, x11, x12, x13] [.inr (.inr 135), .inr (.inl (σ 133 0)), .inr (.inl ((σ 133 j) * (σ 135 0)))] σ _
          refine jw_W_n 1 (i' := 112) (ls' := [some (.inr (.inr 103)), some (.inl t), some (.inl i), some (.inl j), some (.inr (.inl (((σ 132 i) * (σ 135 0)) - ((σ 132 0) * (σ 135 i))))), none, some (.inr (.inl (((σ 133 i) * (σ 135 0)) - ((σ 133 0) * (σ 135 i))))), none, some (.inr (.inl (((σ 132 j) * (σ 135 0)) - ((σ 132 0) * (σ 135 j))))), none, x10, x11, x12, x13]) (st' := [.inl j, .inr (.inr 135), .inr (.inl (σ 133 0)), .inr (.inl ((σ 133 j) * (σ 135 0)))]) rfl ?_
          refine jw_W_la rfl rfl (by omega) (by omega) (by omega) ?_
          show jw_W (js_S n) _ md_319 113 [some (.inr (.inr 103)), some (.inl t), some (.inl i), some (.inl j), some (.inr (.inl (((σ 132 i) * (σ 135 0)) - ((σ 132 0) * (σ 135 i))))), none, some (.inr (.inl (((σ 133 i) * (σ 135 0)) - ((σ 133 0) * (σ 135 i))))), none, some (.inr (.inl (((σ 132 j) * (σ 135 0)) - ((σ 132 0) * (σ 135 j))))), none, x10, x11, x12, x13] [.inr (.inl (σ 135 j)), .inr (.inl (σ 133 0)), .inr (.inl ((σ 133 j) * (σ 135 0)))] σ _
          refine jw_W_n 10 (i' := 123) (ls' := [some (.inr (.inr 103)), some (.inl t), some (.inl i), some (.inl j), some (.inr (.inl (((σ 132 i) * (σ 135 0)) - ((σ 132 0) * (σ 135 i))))), none, some (.inr (.inl (((σ 133 i) * (σ 135 0)) - ((σ 133 0) * (σ 135 i))))), none, some (.inr (.inl (((σ 132 j) * (σ 135 0)) - ((σ 132 0) * (σ 135 j))))), none, some (.inr (.inl (((σ 133 j) * (σ 135 0)) - ((σ 133 0) * (σ 135 j))))), none, x12, x13]) (st' := [.inr (.inl (((((σ 132 i) * (σ 135 0)) - ((σ 132 0) * (σ 135 i))) * (((σ 133 j) * (σ 135 0)) - ((σ 133 0) * (σ 135 j)))) - ((((σ 133 i) * (σ 135 0)) - ((σ 133 0) * (σ 135 i))) * (((σ 132 j) * (σ 135 0)) - ((σ 132 0) * (σ 135 j))))))]) rfl ?_
          have ecr : ((((σ 132 i) * (σ 135 0)) - ((σ 132 0) * (σ 135 i))) * (((σ 133 j) * (σ 135 0)) - ((σ 133 0) * (σ 135 j)))) - ((((σ 133 i) * (σ 135 0)) - ((σ 133 0) * (σ 135 i))) * (((σ 132 j) * (σ 135 0)) - ((σ 132 0) * (σ 135 j)))) = jk_cr σ0 i j := by unfold jk_cr; rw [r132, r133, r135]
          rw [ecr]
          refine jw_W_n 4 (i' := 127) (ls' := [some (.inr (.inr 103)), some (.inl t), some (.inl i), some (.inl j), some (.inr (.inl (((σ 132 i) * (σ 135 0)) - ((σ 132 0) * (σ 135 i))))), none, some (.inr (.inl (((σ 133 i) * (σ 135 0)) - ((σ 133 0) * (σ 135 i))))), none, some (.inr (.inl (((σ 132 j) * (σ 135 0)) - ((σ 132 0) * (σ 135 j))))), none, some (.inr (.inl (((σ 133 j) * (σ 135 0)) - ((σ 133 0) * (σ 135 j))))), none, some (.inr (.inl (jk_cr σ0 i j))), none]) (st' := [.inr (.inl 0), .inr (.inl (jk_cr σ0 i j)), .inr (.inr 103)]) rfl ?_
          refine jw_W_lc rfl rfl (by unfold jw_rgl; omega) (by unfold jw_rgl; omega) (fun hc3 => ?_) (fun hc3 => ?_)
          · have hc3 : (jk_cr σ0 i j) ≥ 0 := hc3
            refine jw_W_n 2 (i' := 134) (ls' := [some (.inr (.inr 103)), some (.inl t), some (.inl i), some (.inl j), some (.inr (.inl (((σ 132 i) * (σ 135 0)) - ((σ 132 0) * (σ 135 i))))), none, some (.inr (.inl (((σ 133 i) * (σ 135 0)) - ((σ 133 0) * (σ 135 i))))), none, some (.inr (.inl (((σ 132 j) * (σ 135 0)) - ((σ 132 0) * (σ 135 j))))), none, some (.inr (.inl (((σ 133 j) * (σ 135 0)) - ((σ 133 0) * (σ 135 j))))), none, some (.inr (.inl (jk_cr σ0 i j))), none]) (st' := [.inr (.inr 103), .inr (.inl (jk_cr σ0 i j)), .inr (.inr 103)]) rfl ?_
            refine jw_W_gf rfl rfl rfl ?_
            show jw_W (js_S n) _ md_319 135 [some (.inr (.inr 103)), some (.inl t), some (.inl i), some (.inl j), some (.inr (.inl (((σ 132 i) * (σ 135 0)) - ((σ 132 0) * (σ 135 i))))), none, some (.inr (.inl (((σ 133 i) * (σ 135 0)) - ((σ 133 0) * (σ 135 i))))), none, some (.inr (.inl (((σ 132 j) * (σ 135 0)) - ((σ 132 0) * (σ 135 j))))), none, some (.inr (.inl (((σ 133 j) * (σ 135 0)) - ((σ 133 0) * (σ 135 j))))), none, some (.inr (.inl (jk_cr σ0 i j))), none] [.inr (.inr 135), .inr (.inl (jk_cr σ0 i j)), .inr (.inr 103)] σ _
            refine jw_W_n 1 (i' := 136) (ls' := [some (.inr (.inr 103)), some (.inl t), some (.inl i), some (.inl j), some (.inr (.inl (((σ 132 i) * (σ 135 0)) - ((σ 132 0) * (σ 135 i))))), none, some (.inr (.inl (((σ 133 i) * (σ 135 0)) - ((σ 133 0) * (σ 135 i))))), none, some (.inr (.inl (((σ 132 j) * (σ 135 0)) - ((σ 132 0) * (σ 135 j))))), none, some (.inr (.inl (((σ 133 j) * (σ 135 0)) - ((σ 133 0) * (σ 135 j))))), none, some (.inr (.inl (jk_cr σ0 i j))), none]) (st' := [.inl 0, .inr (.inr 135), .inr (.inl (jk_cr σ0 i j)), .inr (.inr 103)]) rfl ?_
            refine jw_W_la rfl rfl (by omega) (by omega) (by omega) ?_
            show jw_W (js_S n) _ md_319 137 [some (.inr (.inr 103)), some (.inl t), some (.inl i), some (.inl j), some (.inr (.inl (((σ 132 i) * (σ 135 0)) - ((σ 132 0) * (σ 135 i))))), none, some (.inr (.inl (((σ 133 i) * (σ 135 0)) - ((σ 133 0) * (σ 135 i))))), none, some (.inr (.inl (((σ 132 j) * (σ 135 0)) - ((σ 132 0) * (σ 135 j))))), none, some (.inr (.inl (((σ 133 j) * (σ 135 0)) - ((σ 133 0) * (σ 135 j))))), none, some (.inr (.inl (jk_cr σ0 i j))), none] [.inr (.inl (σ 135 0)), .inr (.inl (jk_cr σ0 i j)), .inr (.inr 103)] σ _
            refine jw_W_n 1 (i' := 138) (ls' := [some (.inr (.inr 103)), some (.inl t), some (.inl i), some (.inl j), some (.inr (.inl (((σ 132 i) * (σ 135 0)) - ((σ 132 0) * (σ 135 i))))), none, some (.inr (.inl (((σ 133 i) * (σ 135 0)) - ((σ 133 0) * (σ 135 i))))), none, some (.inr (.inl (((σ 132 j) * (σ 135 0)) - ((σ 132 0) * (σ 135 j))))), none, some (.inr (.inl (((σ 133 j) * (σ 135 0)) - ((σ 133 0) * (σ 135 j))))), none, some (.inr (.inl (jk_cr σ0 i j))), none]) (st' := [.inr (.inr 103), .inr (.inl (σ 135 0)), .inr (.inl (jk_cr σ0 i j)), .inr (.inr 103)]) rfl ?_
            refine jw_W_gf rfl rfl rfl ?_
            show jw_W (js_S n) _ md_319 139 [some (.inr (.inr 103)), some (.inl t), some (.inl i), some (.inl j), some (.inr (.inl (((σ 132 i) * (σ 135 0)) - ((σ 132 0) * (σ 135 i))))), none, some (.inr (.inl (((σ 133 i) * (σ 135 0)) - ((σ 133 0) * (σ 135 i))))), none, some (.inr (.inl (((σ 132 j) * (σ 135 0)) - ((σ 132 0) * (σ 135 j))))), none, some (.inr (.inl (((σ 133 j) * (σ 135 0)) - ((σ 133 0) * (σ 135 j))))), none, some (.inr (.inl (jk_cr σ0 i j))), none] [.inr (.inr 135), .inr (.inl (σ 135 0)), .inr (.inl (jk_cr σ0 i j)), .inr (.inr 103)] σ _
            refine jw_W_n 1 (i' := 140) (ls' := [some (.inr (.inr 103)), some (.inl t), some (.inl i), some (.inl j), some (.inr (.inl (((σ 132 i) * (σ 135 0)) - ((σ 132 0) * (σ 135 i))))), none, some (.inr (.inl (((σ 133 i) * (σ 135 0)) - ((σ 133 0) * (σ 135 i))))), none, some (.inr (.inl (((σ 132 j) * (σ 135 0)) - ((σ 132 0) * (σ 135 j))))), none, some (.inr (.inl (((σ 133 j) * (σ 135 0)) - ((σ 133 0) * (σ 135 j))))), none, some (.inr (.inl (jk_cr σ0 i j))), none]) (st' := [.inl 0, .inr (.inr 135), .inr (.inl (σ 135 0)), .inr (.inl (jk_cr σ0 i j)), .inr (.inr 103)]) rfl ?_
            refine jw_W_la rfl rfl (by omega) (by omega) (by omega) ?_
            show jw_W (js_S n) _ md_319 141 [some (.inr (.inr 103)), some (.inl t), some (.inl i), some (.inl j), some (.inr (.inl (((σ 132 i) * (σ 135 0)) - ((σ 132 0) * (σ 135 i))))), none, some (.inr (.inl (((σ 133 i) * (σ 135 0)) - ((σ 133 0) * (σ 135 i))))), none, some (.inr (.inl (((σ 132 j) * (σ 135 0)) - ((σ 132 0) * (σ 135 j))))), none, some (.inr (.inl (((σ 133 j) * (σ 135 0)) - ((σ 133 0) * (σ 135 j))))), none, some (.inr (.inl (jk_cr σ0 i j))), none] [.inr (.inl (σ 135 0)), .inr (.inl (σ 135 0)), .inr (.inl (jk_cr σ0 i j)), .inr (.inr 103)] σ _
            refine jw_W_n 2 (i' := 143) (ls' := [some (.inr (.inr 103)), some (.inl t), some (.inl i), some (.inl j), some (.inr (.inl (((σ 132 i) * (σ 135 0)) - ((σ 132 0) * (σ 135 i))))), none, some (.inr (.inl (((σ 133 i) * (σ 135 0)) - ((σ 133 0) * (σ 135 i))))), none, some (.inr (.inl (((σ 132 j) * (σ 135 0)) - ((σ 132 0) * (σ 135 j))))), none, some (.inr (.inl (((σ 133 j) * (σ 135 0)) - ((σ 133 0) * (σ 135 j))))), none, some (.inr (.inl (jk_cr σ0 i j))), none]) (st' := [.inr (.inr 103), .inr (.inl ((σ 135 0) * (σ 135 0))), .inr (.inl (jk_cr σ0 i j)), .inr (.inr 103)]) rfl ?_
            refine jw_W_gf rfl rfl rfl ?_
            show jw_W (js_S n) _ md_319 144 [some (.inr (.inr 103)), some (.inl t), some (.inl i), some (.inl j), some (.inr (.inl (((σ 132 i) * (σ 135 0)) - ((σ 132 0) * (σ 135 i))))), none, some (.inr (.inl (((σ 133 i) * (σ 135 0)) - ((σ 133 0) * (σ 135 i))))), none, some (.inr (.inl (((σ 132 j) * (σ 135 0)) - ((σ 132 0) * (σ 135 j))))), none, some (.inr (.inl (((σ 133 j) * (σ 135 0)) - ((σ 133 0) * (σ 135 j))))), none, some (.inr (.inl (jk_cr σ0 i j))), none] [.inr (.inr 135), .inr (.inl ((σ 135 0) * (σ 135 0))), .inr (.inl (jk_cr σ0 i j)), .inr (.inr 103)] σ _
            refine jw_W_n 1 (i' := 145) (ls' := [some (.inr (.inr 103)), some (.inl t), some (.inl i), some (.inl j), some (.inr (.inl (((σ 132 i) * (σ 135 0)) - ((σ 132 0) * (σ 135 i))))), none, some (.inr (.inl (((σ 133 i) * (σ 135 0)) - ((σ 133 0) * (σ 135 i))))), none, some (.inr (.inl (((σ 132 j) * (σ 135 0)) - ((σ 132 0) * (σ 135 j))))), none, some (.inr (.inl (((σ 133 j) * (σ 135 0)) - ((σ 133 0) * (σ 135 j))))), none, some (.inr (.inl (jk_cr σ0 i j))), none]) (st' := [.inl i, .inr (.inr 135), .inr (.inl ((σ 135 0) * (σ 135 0))), .inr (.inl (jk_cr σ0 i j)), .inr (.inr 103)]) rfl ?_
            refine jw_W_la rfl rfl (by omega) (by omega) (by omega) ?_
            show jw_W (js_S n) _ md_319 146 [some (.inr (.inr 103)), some (.inl t), some (.inl i), some (.inl j), some (.inr (.inl (((σ 132 i) * (σ 135 0)) - ((σ 132 0) * (σ 135 i))))), none, some (.inr (.inl (((σ 133 i) * (σ 135 0)) - ((σ 133 0) * (σ 135 i))))), none, some (.inr (.inl (((σ 132 j) * (σ 135 0)) - ((σ 132 0) * (σ 135 j))))), none, some (.inr (.inl (((σ 133 j) * (σ 135 0)) - ((σ 133 0) * (σ 135 j))))), none, some (.inr (.inl (jk_cr σ0 i j))), none] [.inr (.inl (σ 135 i)), .inr (.inl ((σ 135 0) * (σ 135 0))), .inr (.inl (jk_cr σ0 i j)), .inr (.inr 103)] σ _
            refine jw_W_n 2 (i' := 148) (ls' := [some (.inr (.inr 103)), some (.inl t), some (.inl i), some (.inl j), some (.inr (.inl (((σ 132 i) * (σ 135 0)) - ((σ 132 0) * (σ 135 i))))), none, some (.inr (.inl (((σ 133 i) * (σ 135 0)) - ((σ 133 0) * (σ 135 i))))), none, some (.inr (.inl (((σ 132 j) * (σ 135 0)) - ((σ 132 0) * (σ 135 j))))), none, some (.inr (.inl (((σ 133 j) * (σ 135 0)) - ((σ 133 0) * (σ 135 j))))), none, some (.inr (.inl (jk_cr σ0 i j))), none]) (st' := [.inr (.inr 103), .inr (.inl (((σ 135 0) * (σ 135 0)) * (σ 135 i))), .inr (.inl (jk_cr σ0 i j)), .inr (.inr 103)]) rfl ?_
            refine jw_W_gf rfl rfl rfl ?_
            show jw_W (js_S n) _ md_319 149 [some (.inr (.inr 103)), some (.inl t), some (.inl i), some (.inl j), some (.inr (.inl (((σ 132 i) * (σ 135 0)) - ((σ 132 0) * (σ 135 i))))), none, some (.inr (.inl (((σ 133 i) * (σ 135 0)) - ((σ 133 0) * (σ 135 i))))), none, some (.inr (.inl (((σ 132 j) * (σ 135 0)) - ((σ 132 0) * (σ 135 j))))), none, some (.inr (.inl (((σ 133 j) * (σ 135 0)) - ((σ 133 0) * (σ 135 j))))), none, some (.inr (.inl (jk_cr σ0 i j))), none] [.inr (.inr 135), .inr (.inl (((σ 135 0) * (σ 135 0)) * (σ 135 i))), .inr (.inl (jk_cr σ0 i j)), .inr (.inr 103)] σ _
            refine jw_W_n 1 (i' := 150) (ls' := [some (.inr (.inr 103)), some (.inl t), some (.inl i), some (.inl j), some (.inr (.inl (((σ 132 i) * (σ 135 0)) - ((σ 132 0) * (σ 135 i))))), none, some (.inr (.inl (((σ 133 i) * (σ 135 0)) - ((σ 133 0) * (σ 135 i))))), none, some (.inr (.inl (((σ 132 j) * (σ 135 0)) - ((σ 132 0) * (σ 135 j))))), none, some (.inr (.inl (((σ 133 j) * (σ 135 0)) - ((σ 133 0) * (σ 135 j))))), none, some (.inr (.inl (jk_cr σ0 i j))), none]) (st' := [.inl j, .inr (.inr 135), .inr (.inl (((σ 135 0) * (σ 135 0)) * (σ 135 i))), .inr (.inl (jk_cr σ0 i j)), .inr (.inr 103)]) rfl ?_
            refine jw_W_la rfl rfl (by omega) (by omega) (by omega) ?_
            show jw_W (js_S n) _ md_319 151 [some (.inr (.inr 103)), some (.inl t), some (.inl i), some (.inl j), some (.inr (.inl (((σ 132 i) * (σ 135 0)) - ((σ 132 0) * (σ 135 i))))), none, some (.inr (.inl (((σ 133 i) * (σ 135 0)) - ((σ 133 0) * (σ 135 i))))), none, some (.inr (.inl (((σ 132 j) * (σ 135 0)) - ((σ 132 0) * (σ 135 j))))), none, some (.inr (.inl (((σ 133 j) * (σ 135 0)) - ((σ 133 0) * (σ 135 j))))), none, some (.inr (.inl (jk_cr σ0 i j))), none] [.inr (.inl (σ 135 j)), .inr (.inl (((σ 135 0) * (σ 135 0)) * (σ 135 i))), .inr (.inl (jk_cr σ0 i j)), .inr (.inr 103)] σ _
            refine jw_W_n 1 (i' := 152) (ls' := [some (.inr (.inr 103)), some (.inl t), some (.inl i), some (.inl j), some (.inr (.inl (((σ 132 i) * (σ 135 0)) - ((σ 132 0) * (σ 135 i))))), none, some (.inr (.inl (((σ 133 i) * (σ 135 0)) - ((σ 133 0) * (σ 135 i))))), none, some (.inr (.inl (((σ 132 j) * (σ 135 0)) - ((σ 132 0) * (σ 135 j))))), none, some (.inr (.inl (((σ 133 j) * (σ 135 0)) - ((σ 133 0) * (σ 135 j))))), none, some (.inr (.inl (jk_cr σ0 i j))), none]) (st' := [.inr (.inl ((((σ 135 0) * (σ 135 0)) * (σ 135 i)) * (σ 135 j))), .inr (.inl (jk_cr σ0 i j)), .inr (.inr 103)]) rfl ?_
            have elw : (((σ 135 0) * (σ 135 0)) * (σ 135 i)) * (σ 135 j) = jk_l σ0 i j := by unfold jk_l; rw [r135]
            have eu : jk_cr σ0 i j = jk_u σ0 i j := by unfold jk_u; first | rw [if_pos (by omega)] | rw [if_neg (by omega)]
            rw [elw, eu]
            refine jw_W_call (as := [.inr (.inr 103), .inr (.inl (jk_u σ0 i j)), .inr (.inl (jk_l σ0 i j))]) (rest := []) rfl rfl rfl rfl (Nat.le_of_ble_eq_true rfl) (.inr rfl) (jk_adds2 hA.1 hpt.1 hlb ⟨hu0, hu1⟩ hdv hpt.2 H) (by omega) ?_ rfl
            rintro r1 σ1 ⟨rfl, hf, hH⟩
            show jw_W (js_S n) _ md_319 153 [some (.inr (.inr 103)), some (.inl t), some (.inl i), some (.inl j), some (.inr (.inl (((σ 132 i) * (σ 135 0)) - ((σ 132 0) * (σ 135 i))))), none, some (.inr (.inl (((σ 133 i) * (σ 135 0)) - ((σ 133 0) * (σ 135 i))))), none, some (.inr (.inl (((σ 132 j) * (σ 135 0)) - ((σ 132 0) * (σ 135 j))))), none, some (.inr (.inl (((σ 133 j) * (σ 135 0)) - ((σ 133 0) * (σ 135 j))))), none, some (.inr (.inl (jk_u σ0 i j))), none] [] σ1 _
            refine jw_W_n 2 (i' := 25) (ls' := [some (.inr (.inr 103)), some (.inl t), some (.inl i), some (.inl (j + 1)), some (.inr (.inl (((σ 132 i) * (σ 135 0)) - ((σ 132 0) * (σ 135 i))))), none, some (.inr (.inl (((σ 133 i) * (σ 135 0)) - ((σ 133 0) * (σ 135 i))))), none, some (.inr (.inl (((σ 132 j) * (σ 135 0)) - ((σ 132 0) * (σ 135 j))))), none, some (.inr (.inl (((σ 133 j) * (σ 135 0)) - ((σ 133 0) * (σ 135 j))))), none, some (.inr (.inl (jk_u σ0 i j))), none]) (st' := []) rfl ?_
            exact ih (by omega) (jk_68_tr HZ hf) (by rw [jk_aR_s (by omega), jx_b_1 hlk, Int.one_mul, ← Int.add_assoc]; exact hH)
          · have hc3 : ¬ ((jk_cr σ0 i j) ≥ 0) := hc3
            refine jw_W_n 4 (i' := 134) (ls' := [some (.inr (.inr 103)), some (.inl t), some (.inl i), some (.inl j), some (.inr (.inl (((σ 132 i) * (σ 135 0)) - ((σ 132 0) * (σ 135 i))))), none, some (.inr (.inl (((σ 133 i) * (σ 135 0)) - ((σ 133 0) * (σ 135 i))))), none, some (.inr (.inl (((σ 132 j) * (σ 135 0)) - ((σ 132 0) * (σ 135 j))))), none, some (.inr (.inl (((σ 133 j) * (σ 135 0)) - ((σ 133 0) * (σ 135 j))))), none, some (.inr (.inl (jk_cr σ0 i j))), none]) (st' := [.inr (.inr 103), .inr (.inl ((-(jk_cr σ0 i j)))), .inr (.inr 103)]) rfl ?_
            refine jw_W_gf rfl rfl rfl ?_
            show jw_W (js_S n) _ md_319 135 [some (.inr (.inr 103)), some (.inl t), some (.inl i), some (.inl j), some (.inr (.inl (((σ 132 i) * (σ 135 0)) - ((σ 132 0) * (σ 135 i))))), none, some (.inr (.inl (((σ 133 i) * (σ 135 0)) - ((σ 133 0) * (σ 135 i))))), none, some (.inr (.inl (((σ 132 j) * (σ 135 0)) - ((σ 132 0) * (σ 135 j))))), none, some (.inr (.inl (((σ 133 j) * (σ 135 0)) - ((σ 133 0) * (σ 135 j))))), none, some (.inr (.inl (jk_cr σ0 i j))), none] [.inr (.inr 135), .inr (.inl ((-(jk_cr σ0 i j)))), .inr (.inr 103)] σ _
            refine jw_W_n 1 (i' := 136) (ls' := [some (.inr (.inr 103)), some (.inl t), some (.inl i), some (.inl j), some (.inr (.inl (((σ 132 i) * (σ 135 0)) - ((σ 132 0) * (σ 135 i))))), none, some (.inr (.inl (((σ 133 i) * (σ 135 0)) - ((σ 133 0) * (σ 135 i))))), none, some (.inr (.inl (((σ 132 j) * (σ 135 0)) - ((σ 132 0) * (σ 135 j))))), none, some (.inr (.inl (((σ 133 j) * (σ 135 0)) - ((σ 133 0) * (σ 135 j))))), none, some (.inr (.inl (jk_cr σ0 i j))), none]) (st' := [.inl 0, .inr (.inr 135), .inr (.inl ((-(jk_cr σ0 i j)))), .inr (.inr 103)]) rfl ?_
            refine jw_W_la rfl rfl (by omega) (by omega) (by omega) ?_
            show jw_W (js_S n) _ md_319 137 [some (.inr (.inr 103)), some (.inl t), some (.inl i), some (.inl j), some (.inr (.inl (((σ 132 i) * (σ 135 0)) - ((σ 132 0) * (σ 135 i))))), none, some (.inr (.inl (((σ 133 i) * (σ 135 0)) - ((σ 133 0) * (σ 135 i))))), none, some (.inr (.inl (((σ 132 j) * (σ 135 0)) - ((σ 132 0) * (σ 135 j))))), none, some (.inr (.inl (((σ 133 j) * (σ 135 0)) - ((σ 133 0) * (σ 135 j))))), none, some (.inr (.inl (jk_cr σ0 i j))), none] [.inr (.inl (σ 135 0)), .inr (.inl ((-(jk_cr σ0 i j)))), .inr (.inr 103)] σ _
            refine jw_W_n 1 (i' := 138) (ls' := [some (.inr (.inr 103)), some (.inl t), some (.inl i), some (.inl j), some (.inr (.inl (((σ 132 i) * (σ 135 0)) - ((σ 132 0) * (σ 135 i))))), none, some (.inr (.inl (((σ 133 i) * (σ 135 0)) - ((σ 133 0) * (σ 135 i))))), none, some (.inr (.inl (((σ 132 j) * (σ 135 0)) - ((σ 132 0) * (σ 135 j))))), none, some (.inr (.inl (((σ 133 j) * (σ 135 0)) - ((σ 133 0) * (σ 135 j))))), none, some (.inr (.inl (jk_cr σ0 i j))), none]) (st' := [.inr (.inr 103), .inr (.inl (σ 135 0)), .inr (.inl ((-(jk_cr σ0 i j)))), .inr (.inr 103)]) rfl ?_
            refine jw_W_gf rfl rfl rfl ?_
            show jw_W (js_S n) _ md_319 139 [some (.inr (.inr 103)), some (.inl t), some (.inl i), some (.inl j), some (.inr (.inl (((σ 132 i) * (σ 135 0)) - ((σ 132 0) * (σ 135 i))))), none, some (.inr (.inl (((σ 133 i) * (σ 135 0)) - ((σ 133 0) * (σ 135 i))))), none, some (.inr (.inl (((σ 132 j) * (σ 135 0)) - ((σ 132 0) * (σ 135 j))))), none, some (.inr (.inl (((σ 133 j) * (σ 135 0)) - ((σ 133 0) * (σ 135 j))))), none, some (.inr (.inl (jk_cr σ0 i j))), none] [.inr (.inr 135), .inr (.inl (σ 135 0)), .inr (.inl ((-(jk_cr σ0 i j)))), .inr (.inr 103)] σ _
            refine jw_W_n 1 (i' := 140) (ls' := [some (.inr (.inr 103)), some (.inl t), some (.inl i), some (.inl j), some (.inr (.inl (((σ 132 i) * (σ 135 0)) - ((σ 132 0) * (σ 135 i))))), none, some (.inr (.inl (((σ 133 i) * (σ 135 0)) - ((σ 133 0) * (σ 135 i))))), none, some (.inr (.inl (((σ 132 j) * (σ 135 0)) - ((σ 132 0) * (σ 135 j))))), none, some (.inr (.inl (((σ 133 j) * (σ 135 0)) - ((σ 133 0) * (σ 135 j))))), none, some (.inr (.inl (jk_cr σ0 i j))), none]) (st' := [.inl 0, .inr (.inr 135), .inr (.inl (σ 135 0)), .inr (.inl ((-(jk_cr σ0 i j)))), .inr (.inr 103)]) rfl ?_
            refine jw_W_la rfl rfl (by omega) (by omega) (by omega) ?_
            show jw_W (js_S n) _ md_319 141 [some (.inr (.inr 103)), some (.inl t), some (.inl i), some (.inl j), some (.inr (.inl (((σ 132 i) * (σ 135 0)) - ((σ 132 0) * (σ 135 i))))), none, some (.inr (.inl (((σ 133 i) * (σ 135 0)) - ((σ 133 0) * (σ 135 i))))), none, some (.inr (.inl (((σ 132 j) * (σ 135 0)) - ((σ 132 0) * (σ 135 j))))), none, some (.inr (.inl (((σ 133 j) * (σ 135 0)) - ((σ 133 0) * (σ 135 j))))), none, some (.inr (.inl (jk_cr σ0 i j))), none] [.inr (.inl (σ 135 0)), .inr (.inl (σ 135 0)), .inr (.inl ((-(jk_cr σ0 i j)))), .inr (.inr 103)] σ _
            refine jw_W_n 2 (i' := 143) (ls' := [some (.inr (.inr 103)), some (.inl t), some (.inl i), some (.inl j), some (.inr (.inl (((σ 132 i) * (σ 135 0)) - ((σ 132 0) * (σ 135 i))))), none, some (.inr (.inl (((σ 133 i) * (σ 135 0)) - ((σ 133 0) * (σ 135 i))))), none, some (.inr (.inl (((σ 132 j) * (σ 135 0)) - ((σ 132 0) * (σ 135 j))))), none, some (.inr (.inl (((σ 133 j) * (σ 135 0)) - ((σ 133 0) * (σ 135 j))))), none, some (.inr (.inl (jk_cr σ0 i j))), none]) (st' := [.inr (.inr 103), .inr (.inl ((σ 135 0) * (σ 135 0))), .inr (.inl ((-(jk_cr σ0 i j)))), .inr (.inr 103)]) rfl ?_
            refine jw_W_gf rfl rfl rfl ?_
            show jw_W (js_S n) _ md_319 144 [some (.inr (.inr 103)), some (.inl t), some (.inl i), some (.inl j), some (.inr (.inl (((σ 132 i) * (σ 135 0)) - ((σ 132 0) * (σ 135 i))))), none, some (.inr (.inl (((σ 133 i) * (σ 135 0)) - ((σ 133 0) * (σ 135 i))))), none, some (.inr (.inl (((σ 132 j) * (σ 135 0)) - ((σ 132 0) * (σ 135 j))))), none, some (.inr (.inl (((σ 133 j) * (σ 135 0)) - ((σ 133 0) * (σ 135 j))))), none, some (.inr (.inl (jk_cr σ0 i j))), none] [.inr (.inr 135), .inr (.inl ((σ 135 0) * (σ 135 0))), .inr (.inl ((-(jk_cr σ0 i j)))), .inr (.inr 103)] σ _
            refine jw_W_n 1 (i' := 145) (ls' := [some (.inr (.inr 103)), some (.inl t), some (.inl i), some (.inl j), some (.inr (.inl (((σ 132 i) * (σ 135 0)) - ((σ 132 0) * (σ 135 i))))), none, some (.inr (.inl (((σ 133 i) * (σ 135 0)) - ((σ 133 0) * (σ 135 i))))), none, some (.inr (.inl (((σ 132 j) * (σ 135 0)) - ((σ 132 0) * (σ 135 j))))), none, some (.inr (.inl (((σ 133 j) * (σ 135 0)) - ((σ 133 0) * (σ 135 j))))), none, some (.inr (.inl (jk_cr σ0 i j))), none]) (st' := [.inl i, .inr (.inr 135), .inr (.inl ((σ 135 0) * (σ 135 0))), .inr (.inl ((-(jk_cr σ0 i j)))), .inr (.inr 103)]) rfl ?_
            refine jw_W_la rfl rfl (by omega) (by omega) (by omega) ?_
            show jw_W (js_S n) _ md_319 146 [some (.inr (.inr 103)), some (.inl t), some (.inl i), some (.inl j), some (.inr (.inl (((σ 132 i) * (σ 135 0)) - ((σ 132 0) * (σ 135 i))))), none, some (.inr (.inl (((σ 133 i) * (σ 135 0)) - ((σ 133 0) * (σ 135 i))))), none, some (.inr (.inl (((σ 132 j) * (σ 135 0)) - ((σ 132 0) * (σ 135 j))))), none, some (.inr (.inl (((σ 133 j) * (σ 135 0)) - ((σ 133 0) * (σ 135 j))))), none, some (.inr (.inl (jk_cr σ0 i j))), none] [.inr (.inl (σ 135 i)), .inr (.inl ((σ 135 0) * (σ 135 0))), .inr (.inl ((-(jk_cr σ0 i j)))), .inr (.inr 103)] σ _
            refine jw_W_n 2 (i' := 148) (ls' := [some (.inr (.inr 103)), some (.inl t), some (.inl i), some (.inl j), some (.inr (.inl (((σ 132 i) * (σ 135 0)) - ((σ 132 0) * (σ 135 i))))), none, some (.inr (.inl (((σ 133 i) * (σ 135 0)) - ((σ 133 0) * (σ 135 i))))), none, some (.inr (.inl (((σ 132 j) * (σ 135 0)) - ((σ 132 0) * (σ 135 j))))), none, some (.inr (.inl (((σ 133 j) * (σ 135 0)) - ((σ 133 0) * (σ 135 j))))), none, some (.inr (.inl (jk_cr σ0 i j))), none]) (st' := [.inr (.inr 103), .inr (.inl (((σ 135 0) * (σ 135 0)) * (σ 135 i))), .inr (.inl ((-(jk_cr σ0 i j)))), .inr (.inr 103)]) rfl ?_
            refine jw_W_gf rfl rfl rfl ?_
            show jw_W (js_S n) _ md_319 149 [some (.inr (.inr 103)), some (.inl t), some (.inl i), some (.inl j), some (.inr (.inl (((σ 132 i) * (σ 135 0)) - ((σ 132 0) * (σ 135 i))))), none, some (.inr (.inl (((σ 133 i) * (σ 135 0)) - ((σ 133 0) * (σ 135 i))))), none, some (.inr (.inl (((σ 132 j) * (σ 135 0)) - ((σ 132 0) * (σ 135 j))))), none, some (.inr (.inl (((σ 133 j) * (σ 135 0)) - ((σ 133 0) * (σ 135 j))))), none, some (.inr (.inl (jk_cr σ0 i j))), none] [.inr (.inr 135), .inr (.inl (((σ 135 0) * (σ 135 0)) * (σ 135 i))), .inr (.inl ((-(jk_cr σ0 i j)))), .inr (.inr 103)] σ _
            refine jw_W_n 1 (i' := 150) (ls' := [some (.inr (.inr 103)), some (.inl t), some (.inl i), some (.inl j), some (.inr (.inl (((σ 132 i) * (σ 135 0)) - ((σ 132 0) * (σ 135 i))))), none, some (.inr (.inl (((σ 133 i) * (σ 135 0)) - ((σ 133 0) * (σ 135 i))))), none, some (.inr (.inl (((σ 132 j) * (σ 135 0)) - ((σ 132 0) * (σ 135 j))))), none, some (.inr (.inl (((σ 133 j) * (σ 135 0)) - ((σ 133 0) * (σ 135 j))))), none, some (.inr (.inl (jk_cr σ0 i j))), none]) (st' := [.inl j, .inr (.inr 135), .inr (.inl (((σ 135 0) * (σ 135 0)) * (σ 135 i))), .inr (.inl ((-(jk_cr σ0 i j)))), .inr (.inr 103)]) rfl ?_
            refine jw_W_la rfl rfl (by omega) (by omega) (by omega) ?_
            show jw_W (js_S n) _ md_319 151 [some (.inr (.inr 103)), some (.inl t), some (.inl i), some (.inl j), some (.inr (.inl (((σ 132 i) * (σ 135 0)) - ((σ 132 0) * (σ 135 i))))), none, some (.inr (.inl (((σ 133 i) * (σ 135 0)) - ((σ 133 0) * (σ 135 i))))), none, some (.inr (.inl (((σ 132 j) * (σ 135 0)) - ((σ 132 0) * (σ 135 j))))), none, some (.inr (.inl (((σ 133 j) * (σ 135 0)) - ((σ 133 0) * (σ 135 j))))), none, some (.inr (.inl (jk_cr σ0 i j))), none] [.inr (.inl (σ 135 j)), .inr (.inl (((σ 135 0) * (σ 135 0)) * (σ 135 i))), .inr (.inl ((-(jk_cr σ0 i j)))), .inr (.inr 103)] σ _
            refine jw_W_n 1 (i' := 152) (ls' := [some (.inr (.inr 103)), some (.inl t), some (.inl i), some (.inl j), some (.inr (.inl (((σ 132 i) * (σ 135 0)) - ((σ 132 0) * (σ 135 i))))), none, some (.inr (.inl (((σ 133 i) * (σ 135 0)) - ((σ 133 0) * (σ 135 i))))), none, some (.inr (.inl (((σ 132 j) * (σ 135 0)) - ((σ 132 0) * (σ 135 j))))), none, some (.inr (.inl (((σ 133 j) * (σ 135 0)) - ((σ 133 0) * (σ 135 j))))), none, some (.inr (.inl (jk_cr σ0 i j))), none]) (st' := [.inr (.inl ((((σ 135 0) * (σ 135 0)) * (σ 135 i)) * (σ 135 j))), .inr (.inl ((-(jk_cr σ0 i j)))), .inr (.inr 103)]) rfl ?_
            have elw : (((σ 135 0) * (σ 135 0)) * (σ 135 i)) * (σ 135 j) = jk_l σ0 i j := by unfold jk_l; rw [r135]
            have eu : -(jk_cr σ0 i j) = jk_u σ0 i j := by unfold jk_u; first | rw [if_pos (by omega)] | rw [if_neg (by omega)]
            rw [elw, eu]
            refine jw_W_call (as := [.inr (.inr 103), .inr (.inl (jk_u σ0 i j)), .inr (.inl (jk_l σ0 i j))]) (rest := []) rfl rfl rfl rfl (Nat.le_of_ble_eq_true rfl) (.inr rfl) (jk_adds2 hA.1 hpt.1 hlb ⟨hu0, hu1⟩ hdv hpt.2 H) (by omega) ?_ rfl
            rintro r1 σ1 ⟨rfl, hf, hH⟩
            show jw_W (js_S n) _ md_319 153 [some (.inr (.inr 103)), some (.inl t), some (.inl i), some (.inl j), some (.inr (.inl (((σ 132 i) * (σ 135 0)) - ((σ 132 0) * (σ 135 i))))), none, some (.inr (.inl (((σ 133 i) * (σ 135 0)) - ((σ 133 0) * (σ 135 i))))), none, some (.inr (.inl (((σ 132 j) * (σ 135 0)) - ((σ 132 0) * (σ 135 j))))), none, some (.inr (.inl (((σ 133 j) * (σ 135 0)) - ((σ 133 0) * (σ 135 j))))), none, some (.inr (.inl (jk_cr σ0 i j))), none] [] σ1 _
            refine jw_W_n 2 (i' := 25) (ls' := [some (.inr (.inr 103)), some (.inl t), some (.inl i), some (.inl (j + 1)), some (.inr (.inl (((σ 132 i) * (σ 135 0)) - ((σ 132 0) * (σ 135 i))))), none, some (.inr (.inl (((σ 133 i) * (σ 135 0)) - ((σ 133 0) * (σ 135 i))))), none, some (.inr (.inl (((σ 132 j) * (σ 135 0)) - ((σ 132 0) * (σ 135 j))))), none, some (.inr (.inl (((σ 133 j) * (σ 135 0)) - ((σ 133 0) * (σ 135 j))))), none, some (.inr (.inl (jk_cr σ0 i j))), none]) (st' := []) rfl ?_
            exact ih (by omega) (jk_68_tr HZ hf) (by rw [jk_aR_s (by omega), jx_b_1 hlk, Int.one_mul, ← Int.add_assoc]; exact hH)
      · rw [hs]
        have hlk : ¬ jk_lk σ0 i j := fun hh => hg ((jx_nx1 hKN (i := i) (c := j) (by omega) (by omega) (by omega)).mpr ⟨by omega, by omega, by have h2 := hh.2; unfold jm_E1 at h2 ⊢; rw [eR, ect, ect]; exact h2⟩)
        show jw_W (js_S n) _ md_319 35 [some (.inr (.inr 103)), some (.inl t), some (.inl i), some (.inl j), x4, x5, x6, x7, x8, x9, x10, x11, x12, x13] [.inl 0] σ _
        refine jw_W_if rfl (by unfold jw_rg; omega) (fun hc4 => ?_) (fun hc4 => ?_)
        · clear hc4
          refine jw_W_n 2 (i' := 25) (ls' := [some (.inr (.inr 103)), some (.inl t), some (.inl i), some (.inl (j + 1)), x4, x5, x6, x7, x8, x9, x10, x11, x12, x13]) (st' := []) rfl ?_
          exact ih (by omega) HZ (by rw [jk_aR_s (by omega), jx_b_0 hlk, Int.zero_mul, Int.add_zero]; exact H)
        · exact absurd hc4 (show ¬ ¬ ((0 : Int) = 0) by omega)
theorem jk_arm_out {n : Nat} {σ0 : jw_H} {C : List (ge_R × Int)} (hKN0 : jm_KN σ0 C) (hA : jk_aP σ0 (jk_aK σ0)) {t : Int} (ht : t = 0 ∨ t = 1) : ∀ (f : Nat) {σ : jw_H} {i : Int} {x3 x4 x5 x6 x7 x8 x9 x10 x11 x12 x13 : Option jw_V}, 1 ≤ i → (i + f = σ0 103 56 ∨ (σ0 103 56 = 0 ∧ i = 1)) → jk_68 σ0 σ → (σ 103 68, σ 103 69) = jx_fr (jk_aS σ0 (jk_aK σ0) i.toNat) (jk_aK σ0) → jw_W (js_S n) 3 md_319 17 [some (.inr (.inr 103)), some (.inl t), some (.inl i), x3, x4, x5, x6, x7, x8, x9, x10, x11, x12, x13] [] σ (fun r σ' => r = some (.inr (.inl (if t = 0 then (jk_afr σ0).1 else (jk_afr σ0).2))) ∧ jk_68 σ0 σ')
  | f, σ, i, x3, x4, x5, x6, x7, x8, x9, x10, x11, x12, x13, i1, hk, HZ, H => by
    have ih : ∀ {σ' : jw_H} {x3' x4' x5' x6' x7' x8' x9' x10' x11' x12' x13' : Option jw_V}, i < σ0 103 56 → jk_68 σ0 σ' → (σ' 103 68, σ' 103 69) = jx_fr (jk_aS σ0 (jk_aK σ0) (i + 1).toNat) (jk_aK σ0) → jw_W (js_S n) 3 md_319 17 [some (.inr (.inr 103)), some (.inl t), some (.inl (i + 1)), x3', x4', x5', x6', x7', x8', x9', x10', x11', x12', x13'] [] σ' (fun r σ' => r = some (.inr (.inl (if t = 0 then (jk_afr σ0).1 else (jk_afr σ0).2))) ∧ jk_68 σ0 σ') := by
      intro σ' x3' x4' x5' x6' x7' x8' x9' x10' x11' x12' x13' h1 h2 h3
      match f, hk with
      | 0, hk => omega
      | f + 1, hk => exact jk_arm_out hKN0 hA ht f (by omega) (by omega) h2 h3
    have hKN := jm_KN_fz (jk_68_z hKN0 HZ) hKN0
    have hcb0 := (jm_kw_cbd hKN0.1).2 σ0 (jm_fk_rf σ0)
    have hcn0 := hcb0.1
    have hcb := (jm_kw_cbd hKN.1).2 σ (jm_fk_rf σ)
    have hcn := hcb.1
    have hPm := hKN.1.1
    have hqq := hPm.1
    have hww := hPm.2.1
    have hkk := hPm.2.2.1
    have hg57 := hKN.2.2.1.1
    have hg58 := hKN.2.2.2.1.1
    have e56 : σ 103 56 = σ0 103 56 := HZ.2 56 (by omega)
    have r132 : σ 132 = σ0 132 := HZ.1 132 (by omega)
    have r133 : σ 133 = σ0 133 := HZ.1 133 (by omega)
    have r135 : σ 135 = σ0 135 := HZ.1 135 (by omega)
    have ect := jm_fz_ct (jk_68_z hKN0 HZ)
    have eR : jm_R σ = jm_R σ0 := by
      unfold jm_R
      rw [jm_fz_bA (jk_68_z hKN0 HZ) hKN0.1.1, HZ.2 3 (by omega)]
    have hl56 := hKN.1.2.1.1.1
    refine jw_W_n 2 (i' := 19) (ls' := [some (.inr (.inr 103)), some (.inl t), some (.inl i), x3, x4, x5, x6, x7, x8, x9, x10, x11, x12, x13]) (st' := [.inr (.inr 103), .inl i]) rfl ?_
    refine jw_W_gf rfl rfl rfl ?_
    show jw_W (js_S n) _ md_319 20 [some (.inr (.inr 103)), some (.inl t), some (.inl i), x3, x4, x5, x6, x7, x8, x9, x10, x11, x12, x13] [.inl (σ 103 56), .inl i] σ _
    refine jw_W_ic rfl (by unfold jw_rg; omega) (by unfold jw_rg; omega) (fun hc1 => ?_) (fun hc1 => ?_)
    · have hc1 : i ≥ (σ 103 56) := hc1
      refine jw_W_n 1 (i' := 158) (ls' := [some (.inr (.inr 103)), some (.inl t), some (.inl i), x3, x4, x5, x6, x7, x8, x9, x10, x11, x12, x13]) (st' := [.inl t]) rfl ?_
      refine jw_W_if rfl (by unfold jw_rg; omega) (fun hc2 => ?_) (fun hc2 => ?_)
      · have hc2 : t ≠ 0 := hc2
        refine jw_W_n 1 (i' := 163) (ls' := [some (.inr (.inr 103)), some (.inl t), some (.inl i), x3, x4, x5, x6, x7, x8, x9, x10, x11, x12, x13]) (st' := [.inr (.inr 103)]) rfl ?_
        refine jw_W_gf rfl rfl rfl ?_
        show jw_W (js_S n) _ md_319 164 [some (.inr (.inr 103)), some (.inl t), some (.inl i), x3, x4, x5, x6, x7, x8, x9, x10, x11, x12, x13] [.inr (.inl (σ 103 69))] σ _
        refine jw_W_lr rfl ?_
        have hq : jk_afr σ0 = (σ 103 68, σ 103 69) := by
          unfold jk_afr
          rw [H]
          rcases hk with hk | hk
          · rw [show i = σ0 103 56 by omega]
          · rw [hk.1, hk.2, show (1 : Int).toNat = 1 from rfl, jk_aS_1]
            rfl
        refine ⟨?_, HZ⟩
        rw [hq]
        rw [if_neg (by omega)]
      · have hc2 : t = 0 := Classical.not_not.mp hc2
        refine jw_W_n 1 (i' := 160) (ls' := [some (.inr (.inr 103)), some (.inl t), some (.inl i), x3, x4, x5, x6, x7, x8, x9, x10, x11, x12, x13]) (st' := [.inr (.inr 103)]) rfl ?_
        refine jw_W_gf rfl rfl rfl ?_
        show jw_W (js_S n) _ md_319 161 [some (.inr (.inr 103)), some (.inl t), some (.inl i), x3, x4, x5, x6, x7, x8, x9, x10, x11, x12, x13] [.inr (.inl (σ 103 68))] σ _
        refine jw_W_n 1 (i' := 164) (ls' := [some (.inr (.inr 103)), some (.inl t), some (.inl i), x3, x4, x5, x6, x7, x8, x9, x10, x11, x12, x13]) (st' := [.inr (.inl (σ 103 68))]) rfl ?_
        refine jw_W_lr rfl ?_
        have hq : jk_afr σ0 = (σ 103 68, σ 103 69) := by
          unfold jk_afr
          rw [H]
          rcases hk with hk | hk
          · rw [show i = σ0 103 56 by omega]
          · rw [hk.1, hk.2, show (1 : Int).toNat = 1 from rfl, jk_aS_1]
            rfl
        refine ⟨?_, HZ⟩
        rw [hq]
        rw [if_pos (by omega)]
    · have hc1 : ¬ (i ≥ (σ 103 56)) := hc1
      refine jw_W_n 4 (i' := 25) (ls' := [some (.inr (.inr 103)), some (.inl t), some (.inl i), some (.inl (i + 1)), x4, x5, x6, x7, x8, x9, x10, x11, x12, x13]) (st' := []) rfl ?_
      refine jk_arm_in hKN0 hA i1 (by omega) (fun {σ2} {y4} {y5} {y6} {y7} {y8} {y9} {y10} {y11} {y12} {y13} HZ2 H2 => ?_) (σ0 103 56 - (i + 1)).toNat (j := i + 1) (by omega) (by omega) HZ (by rw [jk_aR_lo _ (by omega), Int.add_zero]; exact H)
      refine jw_W_n 2 (i' := 17) (ls' := [some (.inr (.inr 103)), some (.inl t), some (.inl (i + 1)), some (.inl (σ0 103 56)), y4, y5, y6, y7, y8, y9, y10, y11, y12, y13]) (st' := []) rfl ?_
      exact ih (by omega) HZ2 H2
theorem jm_area {n : Nat} {σ : jw_H} {C : List (ge_R × Int)} (hKN : jm_KN σ C) (hA : σ 103 3 = 2 → jk_aP σ (jk_aK σ)) {t : Int} (ht : jw_rg t) : jw_T (js_S n) 4 319 [.inr (.inr 103), .inl t] σ (fun r σ' => ∃ v, r = some (.inr (.inl v)) ∧ jm_fz σ σ' ∧ jk_ara σ t v) := by
  refine jw_T_of (D := 3) (M := mm_319) rfl (Nat.le_of_ble_eq_true rfl) (ls0 := [some (.inr (.inr 103)), some (.inl t), none, none, none, none, none, none, none, none, none, none, none, none]) rfl ?_ (by rintro _ _ ⟨_, rfl, -⟩; rfl)
  have hcb := (jm_kw_cbd hKN.1).2 σ (jm_fk_rf σ)
  have hcn := hcb.1
  have hPm := hKN.1.1
  have hqq := hPm.1
  have hww := hPm.2.1
  have hkk := hPm.2.2.1
  have hg57 := hKN.2.2.1.1
  have hg58 := hKN.2.2.2.1.1
  have rht := ht
  unfold jw_rg at rht
  refine jw_W_n 3 (i' := 3) (ls' := [some (.inr (.inr 103)), some (.inl t), none, none, none, none, none, none, none, none, none, none, none, none]) (st' := [.inl 1, .inl 0, .inl t]) rfl ?_
  refine jw_W_call (as := [.inl t, .inl 0, .inl 1]) (rest := []) rfl rfl rfl rfl (Nat.le_of_ble_eq_true rfl) (.inl rfl) (jm_in (by unfold jw_rg; omega) (by unfold jw_rg; omega) (by unfold jw_rg; omega)) (by omega) ?_ rfl
  rintro r1 σz (⟨rfl, hs, q1⟩ | ⟨rfl, hs, q1⟩)
  · rw [hs]
    show jw_W (js_S n) _ md_319 4 [some (.inr (.inr 103)), some (.inl t), none, none, none, none, none, none, none, none, none, none, none, none] [.inl 1] σ _
    refine jw_W_if rfl (by unfold jw_rg; omega) (fun hc1 => ?_) (fun hc1 => ?_)
    · clear hc1
      refine jw_W_n 1 (i' := 8) (ls' := [some (.inr (.inr 103)), some (.inl t), none, none, none, none, none, none, none, none, none, none, none, none]) (st' := [.inr (.inr 103)]) rfl ?_
      refine jw_W_gf rfl rfl rfl ?_
      show jw_W (js_S n) _ md_319 9 [some (.inr (.inr 103)), some (.inl t), none, none, none, none, none, none, none, none, none, none, none, none] [.inl (σ 103 3)] σ _
      refine jw_W_n 1 (i' := 10) (ls' := [some (.inr (.inr 103)), some (.inl t), none, none, none, none, none, none, none, none, none, none, none, none]) (st' := [.inl 2, .inl (σ 103 3)]) rfl ?_
      refine jw_W_ic rfl (by unfold jw_rg; omega) (by unfold jw_rg; omega) (fun hc2 => ?_) (fun hc2 => ?_)
      · have hc2 : (σ 103 3) = 2 := hc2
        refine jw_W_n 1 (i' := 14) (ls' := [some (.inr (.inr 103)), some (.inl t), none, none, none, none, none, none, none, none, none, none, none, none]) (st' := [.inr (.inr 103)]) rfl ?_
        refine jw_W_call (as := [.inr (.inr 103)]) (rest := []) rfl rfl rfl rfl (Nat.le_of_ble_eq_true rfl) (.inr rfl) (jk_begins) (by omega) ?_ rfl
        rintro r1 σ1 ⟨rfl, hs⟩
        have hf1 : jk_68 σ σ1 := by rw [hs]; exact jk_68_up (jk_68_up ⟨fun _ _ => rfl, fun _ _ => rfl⟩ (by omega)) (by omega)
        have hH1 : (σ1 103 68, σ1 103 69) = jx_fr (jk_aS σ (jk_aK σ) (1 : Int).toNat) (jk_aK σ) := by rw [hs, show (1 : Int).toNat = 1 from rfl, jk_aS_1]; exact (jk_fr0 (hA (by omega)).1.1).symm
        show jw_W (js_S n) _ md_319 15 [some (.inr (.inr 103)), some (.inl t), none, none, none, none, none, none, none, none, none, none, none, none] [] σ1 _
        refine jw_W_n 2 (i' := 17) (ls' := [some (.inr (.inr 103)), some (.inl t), some (.inl 1), none, none, none, none, none, none, none, none, none, none, none]) (st' := []) rfl ?_
        refine jw_W_mono (jk_arm_out hKN (hA (by omega)) (by omega) (σ 103 56 - 1).toNat (i := 1) (by omega) (by omega) hf1 hH1) ?_
        rintro r σ' ⟨rfl, hf⟩
        exact ⟨_, rfl, jk_68_z hKN hf, .inr ⟨by omega, .inr ⟨by omega, rfl⟩⟩⟩
      · have hc2 : ¬ ((σ 103 3) = 2) := hc2
        refine jw_W_ld2 (z := (-3)) rfl rfl ?_
        refine jw_W_lr rfl ?_
        exact ⟨_, rfl, jm_fz_rf hKN, .inr ⟨by omega, .inl ⟨rfl, by omega⟩⟩⟩
    · exact absurd hc1 (show ¬ ¬ ((1 : Int) ≠ 0) by omega)
  · rw [hs]
    show jw_W (js_S n) _ md_319 4 [some (.inr (.inr 103)), some (.inl t), none, none, none, none, none, none, none, none, none, none, none, none] [.inl 0] σ _
    refine jw_W_if rfl (by unfold jw_rg; omega) (fun hc3 => ?_) (fun hc3 => ?_)
    · exact absurd hc3 (show ¬ ((0 : Int) ≠ 0) by omega)
    · clear hc3
      refine jw_W_ld2 (z := (-1)) rfl rfl ?_
      refine jw_W_lr rfl ?_
      exact ⟨_, rfl, jm_fz_rf hKN, .inl ⟨rfl, by omega⟩⟩

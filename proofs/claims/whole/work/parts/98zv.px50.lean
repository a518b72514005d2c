/-! ===== regret, the answers ===== -/
theorem jm_rgt_w {σ σ' : jw_H} (hm : ∀ w b, jm_mst σ' w (σ' 103 56) b ↔ jm_mst σ w (σ 103 56) b) (hw : ∀ w i j, jm_mw σ' w i j = jm_mw σ w i j) (h5 : σ' 135 = σ 135) (h4 : σ' 103 4 = σ 103 4) (i : Int) : jm_rgt σ' i = jm_rgt σ i := by
  have eb : ∀ w, jm_bst σ' w = jm_bst σ w := fun w => by
    unfold jm_bst
    rw [show (fun b => jm_mst σ' w (σ' 103 56) b) = fun b => jm_mst σ w (σ 103 56) b from funext fun b => propext (hm w b)]
  have ed : ∀ w, jm_rgd σ' i w = jm_rgd σ i w := fun w => by
    unfold jm_rgd
    rw [hw, eb]
  have el : ∀ w, jm_rgl σ' i w = jm_rgl σ i w := fun w => by
    unfold jm_rgl
    rw [h5, eb]
  have e : ∀ m : Nat, jm_rg σ' i m = jm_rg σ i m := fun m => by
    induction m with
    | zero => rfl
    | succ m ih =>
      unfold jm_rg
      rw [ih, ed, el]
  unfold jm_rgt
  rw [e, h4]
theorem jm_rgt_me {σ0 σ : jw_H} (h : jx_me σ0 σ) (i : Int) : jm_rgt σ i = jm_rgt σ0 i := by
  refine jm_rgt_w (fun w b => ?_) (fun w i j => by rw [jm_mw_me h]) (h 135 (by omega)) (by rw [h 103 (by omega)]) i
  unfold jm_mst jm_wl jm_W
  simp only [jx_me_ct h, h 103 (by omega), h 104 (by omega), h 135 (by omega)]
theorem jm_rgt_f71 {σ0 σ : jw_H} (h : jm_f71 σ0 σ) (i : Int) : jm_rgt σ i = jm_rgt σ0 i := by
  refine jm_rgt_w (fun w b => ?_) (fun w i j => jm_f71_mw h w i j) (h.1 135 (by omega)) (h.2 4 (by omega)) i
  unfold jm_mst jm_wl jm_W
  simp only [jm_f71_ct h, h.2 56 (by omega), h.1 104 (by omega), h.1 135 (by omega)]
theorem jm_rga_me {σ0 σ : jw_H} (h : jx_me σ0 σ) (t v : Int) : jm_rga σ t v ↔ jm_rga σ0 t v := by
  unfold jm_rga jm_rgb
  simp only [jm_rgt_me h, h 103 (by omega)]
theorem jm_rgr_loop {n : Nat} {σ0 : jw_H} {C : List (ge_R × Int)} (hKN0 : jm_KN σ0 C) {t : Int} (t0 : 0 ≤ t) (t1 : t ≤ 2) : ∀ (f : Nat) {σ : jw_H} {b u d i : Int}, 1 ≤ i → i + f = σ0 103 56 → jm_f71 σ0 σ → 0 ≤ b ∧ b < i → (u, d) = jm_rgt σ0 b → jm_rgb σ0 i b → jw_W (js_S n) 4 md_318 25 [some (.inr (.inr 103)), some (.inl t), some (.inl b), some (.inr (.inl u)), none, some (.inr (.inl d)), none, some (.inl i)] [] σ (fun r σ' => ∃ v, r = some (.inr (.inl v)) ∧ jm_f71 σ0 σ' ∧ ∃ b, jm_rgb σ0 (σ0 103 56) b ∧ v = if t = 2 then b else if t = 0 then (jm_rgt σ0 b).1 else (jm_rgt σ0 b).2)
  | f, σ, b, u, d, i, i1, hk, HZ, hb, HS, H => by
    have ih : ∀ {σ' : jw_H} {b' u' d' : Int}, i < σ0 103 56 → jm_f71 σ0 σ' → 0 ≤ b' ∧ b' < i + 1 → (u', d') = jm_rgt σ0 b' → jm_rgb σ0 (i + 1) b' → jw_W (js_S n) 4 md_318 25 [some (.inr (.inr 103)), some (.inl t), some (.inl b'), some (.inr (.inl u')), none, some (.inr (.inl d')), none, some (.inl (i + 1))] [] σ' (fun r σ' => ∃ v, r = some (.inr (.inl v)) ∧ jm_f71 σ0 σ' ∧ ∃ b, jm_rgb σ0 (σ0 103 56) b ∧ v = if t = 2 then b else if t = 0 then (jm_rgt σ0 b).1 else (jm_rgt σ0 b).2) := by
      intro σ' b' u' d' h1 h2 h3 h4 h5
      match f, hk with
      | 0, hk => omega
      | f + 1, hk => exact jm_rgr_loop hKN0 t0 t1 f (by omega) (by omega) h2 h3 h4 h5
    have i0 : 0 ≤ i := by omega
    have hP0 := hKN0.1.1
    have hw0 := hP0.2.1
    have hcb0 := (jm_kw_cbd hKN0.1).2 σ0 (jm_fk_rf σ0)
    have hKN := jm_KN_fz (jm_f71_z hKN0 HZ) hKN0
    have e56 : σ 103 56 = σ0 103 56 := HZ.2 56 (by omega)
    have hsb := (jm_rg_ok hP0 hcb0 hb.1 (show b < σ0 103 56 by omega) (show 0 ≤ σ0 103 4 by omega) (Int.le_refl _)).1
    rw [show jm_rg σ0 b (σ0 103 4).toNat = jm_rgt σ0 b from rfl, ← HS] at hsb
    unfold jm_rb at hsb
    dsimp only at hsb
    have hcb := (jm_kw_cbd hKN.1).2 σ (jm_fk_rf σ)
    have hcn := hcb.1
    have hPm := hKN.1.1
    have hqq := hPm.1
    have hww := hPm.2.1
    have hkk := hPm.2.2.1
    have hg57 := hKN.2.2.1.1
    have hg58 := hKN.2.2.2.1.1
    refine jw_W_n 2 (i' := 27) (ls' := [some (.inr (.inr 103)), some (.inl t), some (.inl b), some (.inr (.inl u)), none, some (.inr (.inl d)), none, some (.inl i)]) (st' := [.inr (.inr 103), .inl i]) rfl ?_
    refine jw_W_gf rfl rfl rfl ?_
    show jw_W (js_S n) _ md_318 28 [some (.inr (.inr 103)), some (.inl t), some (.inl b), some (.inr (.inl u)), none, some (.inr (.inl d)), none, some (.inl i)] [.inl (σ 103 56), .inl i] σ _
    refine jw_W_ic rfl (by unfold jw_rg; omega) (by unfold jw_rg; omega) (fun hc1 => ?_) (fun hc1 => ?_)
    · have hc1 : i ≥ (σ 103 56) := hc1
      refine jw_W_n 2 (i' := 54) (ls' := [some (.inr (.inr 103)), some (.inl t), some (.inl b), some (.inr (.inl u)), none, some (.inr (.inl d)), none, some (.inl i)]) (st' := [.inl 2, .inl t]) rfl ?_
      refine jw_W_ic rfl (by unfold jw_rg; omega) (by unfold jw_rg; omega) (fun hc2 => ?_) (fun hc2 => ?_)
      · have hc2 : t ≠ 2 := hc2
        refine jw_W_n 1 (i' := 59) (ls' := [some (.inr (.inr 103)), some (.inl t), some (.inl b), some (.inr (.inl u)), none, some (.inr (.inl d)), none, some (.inl i)]) (st' := [.inl t]) rfl ?_
        refine jw_W_if rfl (by unfold jw_rg; omega) (fun hc3 => ?_) (fun hc3 => ?_)
        · have hc3 : t ≠ 0 := hc3
          refine jw_W_n 1 (i' := 63) (ls' := [some (.inr (.inr 103)), some (.inl t), some (.inl b), some (.inr (.inl u)), none, some (.inr (.inl d)), none, some (.inl i)]) (st' := [.inr (.inl d)]) rfl ?_
          refine jw_W_lr rfl ?_
          have hkl : i = σ0 103 56 := by omega
          subst hkl
          exact ⟨_, rfl, HZ, b, H, by rw [if_neg (by omega), if_neg (by omega), ← HS]⟩
        · have hc3 : t = 0 := Classical.not_not.mp hc3
          refine jw_W_n 2 (i' := 63) (ls' := [some (.inr (.inr 103)), some (.inl t), some (.inl b), some (.inr (.inl u)), none, some (.inr (.inl d)), none, some (.inl i)]) (st' := [.inr (.inl u)]) rfl ?_
          refine jw_W_lr rfl ?_
          have hkl : i = σ0 103 56 := by omega
          subst hkl
          exact ⟨_, rfl, HZ, b, H, by rw [if_neg (by omega), if_pos (by omega), ← HS]⟩
      · have hc2 : t = 2 := Classical.not_not.mp hc2
        refine jw_W_n 1 (i' := 56) (ls' := [some (.inr (.inr 103)), some (.inl t), some (.inl b), some (.inr (.inl u)), none, some (.inr (.inl d)), none, some (.inl i)]) (st' := [.inl b]) rfl ?_
        refine jw_W_i2l rfl (by unfold jw_rg; omega) ?_
        refine jw_W_n 1 (i' := 63) (ls' := [some (.inr (.inr 103)), some (.inl t), some (.inl b), some (.inr (.inl u)), none, some (.inr (.inl d)), none, some (.inl i)]) (st' := [.inr (.inl b)]) rfl ?_
        refine jw_W_lr rfl ?_
        have hkl : i = σ0 103 56 := by omega
        subst hkl
        exact ⟨_, rfl, HZ, b, H, by rw [if_pos (by omega)]⟩
    · have hc1 : ¬ (i ≥ (σ 103 56)) := hc1
      refine jw_W_n 2 (i' := 31) (ls' := [some (.inr (.inr 103)), some (.inl t), some (.inl b), some (.inr (.inl u)), none, some (.inr (.inl d)), none, some (.inl i)]) (st' := [.inl i, .inr (.inr 103)]) rfl ?_
      refine jw_W_call (as := [.inr (.inr 103), .inl i]) (rest := []) rfl rfl rfl rfl (Nat.le_of_ble_eq_true rfl) (.inr rfl) (jm_laysRegret hKN (by omega) (by omega)) (by omega) ?_ rfl
      rintro r1 σ1 ⟨rfl, hf, hr⟩
      have hZ1 := jm_f71_tr HZ hf
      rw [jm_rgt_f71 HZ] at hr
      have hrb := (jm_rg_ok hP0 hcb0 i0 (show i < σ0 103 56 by omega) (show 0 ≤ σ0 103 4 by omega) (Int.le_refl _)).1
      rw [show jm_rg σ0 i (σ0 103 4).toNat = jm_rgt σ0 i from rfl, ← hr] at hrb
      unfold jm_rb at hrb
      dsimp only at hrb
      have m1 := jx_mulb (x := σ1 103 70) (y := d) (A := 9000000) (B := 9000000) (by omega) (by omega) (by omega)
      have m2 := jx_mulb (x := u) (y := σ1 103 71) (A := 9000000) (B := 9000000) (by omega) (by omega) (by omega)
      show jw_W (js_S n) _ md_318 32 [some (.inr (.inr 103)), some (.inl t), some (.inl b), some (.inr (.inl u)), none, some (.inr (.inl d)), none, some (.inl i)] [] σ1 _
      refine jw_W_n 1 (i' := 33) (ls' := [some (.inr (.inr 103)), some (.inl t), some (.inl b), some (.inr (.inl u)), none, some (.inr (.inl d)), none, some (.inl i)]) (st' := [.inr (.inr 103)]) rfl ?_
      refine jw_W_gf rfl rfl rfl ?_
      show jw_W (js_S n) _ md_318 34 [some (.inr (.inr 103)), some (.inl t), some (.inl b), some (.inr (.inl u)), none, some (.inr (.inl d)), none, some (.inl i)] [.inr (.inl (σ1 103 70))] σ1 _
      refine jw_W_n 4 (i' := 38) (ls' := [some (.inr (.inr 103)), some (.inl t), some (.inl b), some (.inr (.inl u)), none, some (.inr (.inl d)), none, some (.inl i)]) (st' := [.inr (.inr 103), .inr (.inl u), .inr (.inl ((σ1 103 70) * d))]) rfl ?_
      refine jw_W_gf rfl rfl rfl ?_
      show jw_W (js_S n) _ md_318 39 [some (.inr (.inr 103)), some (.inl t), some (.inl b), some (.inr (.inl u)), none, some (.inr (.inl d)), none, some (.inl i)] [.inr (.inl (σ1 103 71)), .inr (.inl u), .inr (.inl ((σ1 103 70) * d))] σ1 _
      refine jw_W_n 1 (i' := 40) (ls' := [some (.inr (.inr 103)), some (.inl t), some (.inl b), some (.inr (.inl u)), none, some (.inr (.inl d)), none, some (.inl i)]) (st' := [.inr (.inl (u * (σ1 103 71))), .inr (.inl ((σ1 103 70) * d))]) rfl ?_
      refine jw_W_lc rfl rfl (by unfold jw_rgl; omega) (by unfold jw_rgl; omega) (fun hc4 => ?_) (fun hc4 => ?_)
      · have hc4 : ((σ1 103 70) * d) ≥ (u * (σ1 103 71)) := hc4
        refine jw_W_n 2 (i' := 25) (ls' := [some (.inr (.inr 103)), some (.inl t), some (.inl b), some (.inr (.inl u)), none, some (.inr (.inl d)), none, some (.inl (i + 1))]) (st' := []) rfl ?_
        exact ih (by omega) hZ1 (by omega) HS (jm_rgb_no H (by unfold jm_rlt; rw [← hr, ← HS]; show ¬ (σ1 103 70 * d < u * σ1 103 71); omega))
      · have hc4 : ¬ (((σ1 103 70) * d) ≥ (u * (σ1 103 71))) := hc4
        refine jw_W_n 3 (i' := 45) (ls' := [some (.inr (.inr 103)), some (.inl t), some (.inl i), some (.inr (.inl u)), none, some (.inr (.inl d)), none, some (.inl i)]) (st' := [.inr (.inr 103)]) rfl ?_
        refine jw_W_gf rfl rfl rfl ?_
        show jw_W (js_S n) _ md_318 46 [some (.inr (.inr 103)), some (.inl t), some (.inl i), some (.inr (.inl u)), none, some (.inr (.inl d)), none, some (.inl i)] [.inr (.inl (σ1 103 70))] σ1 _
        refine jw_W_n 2 (i' := 48) (ls' := [some (.inr (.inr 103)), some (.inl t), some (.inl i), some (.inr (.inl (σ1 103 70))), none, some (.inr (.inl d)), none, some (.inl i)]) (st' := [.inr (.inr 103)]) rfl ?_
        refine jw_W_gf rfl rfl rfl ?_
        show jw_W (js_S n) _ md_318 49 [some (.inr (.inr 103)), some (.inl t), some (.inl i), some (.inr (.inl (σ1 103 70))), none, some (.inr (.inl d)), none, some (.inl i)] [.inr (.inl (σ1 103 71))] σ1 _
        refine jw_W_n 3 (i' := 25) (ls' := [some (.inr (.inr 103)), some (.inl t), some (.inl i), some (.inr (.inl (σ1 103 70))), none, some (.inr (.inl (σ1 103 71))), none, some (.inl (i + 1))]) (st' := []) rfl ?_
        exact ih (by omega) hZ1 (by omega) hr (jm_rgb_yes (fun c c0 c1 => (jm_rg_ok hP0 hcb0 c0 (by omega) (show 0 ≤ σ0 103 4 by omega) (Int.le_refl _)).1.2.1) (by omega) H (by unfold jm_rlt; rw [← hr, ← HS]; show σ1 103 70 * d < u * σ1 103 71; omega))
theorem jm_regret {n : Nat} {σ : jw_H} {C : List (ge_R × Int)} (hKN : jm_KN σ C) {t : Int} (ht : jw_rg t) : jw_T (js_S n) 5 318 [.inr (.inr 103), .inl t] σ (fun r σ' => ∃ v, r = some (.inr (.inl v)) ∧ jm_fz σ σ' ∧ jm_rga σ t v) := by
  refine jw_T_of (D := 4) (M := mm_318) rfl (Nat.le_of_ble_eq_true rfl) (ls0 := [some (.inr (.inr 103)), some (.inl t), none, none, none, none, none, none]) rfl ?_ (by rintro _ _ ⟨_, rfl, -⟩; rfl)
  have hcb := (jm_kw_cbd hKN.1).2 σ (jm_fk_rf σ)
  have hcn := hcb.1
  have hPm := hKN.1.1
  have hqq := hPm.1
  have hww := hPm.2.1
  have hkk := hPm.2.2.1
  have hg57 := hKN.2.2.1.1
  have hg58 := hKN.2.2.2.1.1
  have rht := ht
  unfold jw_rg at rht
  refine jw_W_n 3 (i' := 3) (ls' := [some (.inr (.inr 103)), some (.inl t), none, none, none, none, none, none]) (st' := [.inl 2, .inl 0, .inl t]) rfl ?_
  refine jw_W_call (as := [.inl t, .inl 0, .inl 2]) (rest := []) rfl rfl rfl rfl (Nat.le_of_ble_eq_true rfl) (.inl rfl) (jm_in (by unfold jw_rg; omega) (by unfold jw_rg; omega) (by unfold jw_rg; omega)) (by omega) ?_ rfl
  rintro r1 σz (⟨rfl, hs, q1⟩ | ⟨rfl, hs, q1⟩)
  · rw [hs]
    show jw_W (js_S n) _ md_318 4 [some (.inr (.inr 103)), some (.inl t), none, none, none, none, none, none] [.inl 1] σ _
    refine jw_W_if rfl (by unfold jw_rg; omega) (fun hc1 => ?_) (fun hc1 => ?_)
    · clear hc1
      refine jw_W_n 1 (i' := 8) (ls' := [some (.inr (.inr 103)), some (.inl t), none, none, none, none, none, none]) (st' := [.inr (.inr 103)]) rfl ?_
      refine jw_W_gf rfl rfl rfl ?_
      show jw_W (js_S n) _ md_318 9 [some (.inr (.inr 103)), some (.inl t), none, none, none, none, none, none] [.inl (σ 103 56)] σ _
      refine jw_W_if rfl (by unfold jw_rg; omega) (fun hc2 => ?_) (fun hc2 => ?_)
      · have hc2 : (σ 103 56) ≠ 0 := hc2
        refine jw_W_n 4 (i' := 16) (ls' := [some (.inr (.inr 103)), some (.inl t), some (.inl 0), none, none, none, none, none]) (st' := [.inl 0, .inr (.inr 103)]) rfl ?_
        refine jw_W_call (as := [.inr (.inr 103), .inl 0]) (rest := []) rfl rfl rfl rfl (Nat.le_of_ble_eq_true rfl) (.inr rfl) (jm_laysRegret hKN (i := 0) (by omega) (by omega)) (by omega) ?_ rfl
        rintro r1 σ1 ⟨rfl, hf, hr⟩
        show jw_W (js_S n) _ md_318 17 [some (.inr (.inr 103)), some (.inl t), some (.inl 0), none, none, none, none, none] [] σ1 _
        refine jw_W_n 1 (i' := 18) (ls' := [some (.inr (.inr 103)), some (.inl t), some (.inl 0), none, none, none, none, none]) (st' := [.inr (.inr 103)]) rfl ?_
        refine jw_W_gf rfl rfl rfl ?_
        show jw_W (js_S n) _ md_318 19 [some (.inr (.inr 103)), some (.inl t), some (.inl 0), none, none, none, none, none] [.inr (.inl (σ1 103 70))] σ1 _
        refine jw_W_n 2 (i' := 21) (ls' := [some (.inr (.inr 103)), some (.inl t), some (.inl 0), some (.inr (.inl (σ1 103 70))), none, none, none, none]) (st' := [.inr (.inr 103)]) rfl ?_
        refine jw_W_gf rfl rfl rfl ?_
        show jw_W (js_S n) _ md_318 22 [some (.inr (.inr 103)), some (.inl t), some (.inl 0), some (.inr (.inl (σ1 103 70))), none, none, none, none] [.inr (.inl (σ1 103 71))] σ1 _
        refine jw_W_n 3 (i' := 25) (ls' := [some (.inr (.inr 103)), some (.inl t), some (.inl 0), some (.inr (.inl (σ1 103 70))), none, some (.inr (.inl (σ1 103 71))), none, some (.inl 1)]) (st' := []) rfl ?_
        refine jw_W_mono (jm_rgr_loop hKN (by omega) (by omega) (σ 103 56 - 1).toNat (b := 0) (i := 1) (by omega) (by omega) hf (by omega) hr (jm_rgb_1 σ)) ?_
        rintro r σ' ⟨v, rfl, hf2, hv⟩
        exact ⟨_, rfl, jm_f71_z hKN hf2, .inr ⟨by omega, .inr ⟨by omega, hv⟩⟩⟩
      · have hc2 : (σ 103 56) = 0 := Classical.not_not.mp hc2
        refine jw_W_ld2 (z := (-2)) rfl rfl ?_
        refine jw_W_lr rfl ?_
        exact ⟨_, rfl, jm_fz_rf hKN, .inr ⟨by omega, .inl ⟨rfl, by omega⟩⟩⟩
    · exact absurd hc1 (show ¬ ¬ ((1 : Int) ≠ 0) by omega)
  · rw [hs]
    show jw_W (js_S n) _ md_318 4 [some (.inr (.inr 103)), some (.inl t), none, none, none, none, none, none] [.inl 0] σ _
    refine jw_W_if rfl (by unfold jw_rg; omega) (fun hc3 => ?_) (fun hc3 => ?_)
    · exact absurd hc3 (show ¬ ((0 : Int) ≠ 0) by omega)
    · clear hc3
      refine jw_W_ld2 (z := (-1)) rfl rfl ?_
      refine jw_W_lr rfl ?_
      exact ⟨_, rfl, jm_fz_rf hKN, .inl ⟨rfl, by omega⟩⟩
/-- the class's Fractions 98 and 99 -/
def jx_f89 (σ σ' : jw_H) : Prop := ∀ o, o ≠ 97 → o ≠ 98 → o ≠ 99 → σ' o = σ o
theorem jx_f89_y {σ σ' : jw_H} (h : jx_f89 σ σ') : jx_fy σ σ' := ⟨fun c _ h2 => h c (by omega) (by omega) (by omega), fun j _ => by rw [h 13 (by omega) (by omega) (by omega)]⟩

/-! ===== regret of the class ===== -/
theorem jx_rgr_loop {n : Nat} {σ0 : jw_H} {o : Nat} {C : List (ge_R × Int)} (hK0 : jx_K n o C σ0) {t : Int} (t0 : 0 ≤ t) (t1 : t ≤ 2) : ∀ (f : Nat) {σ : jw_H} {b i : Int}, 0 ≤ i → i + f = σ0 103 56 → jx_f89 σ0 σ → ((b = -1 ∧ i = 0) ∨ ((0 ≤ b ∧ b < i) ∧ (σ 98 0, σ 98 1) = jm_rgt σ0 b ∧ jm_rgb σ0 (i) b)) → jw_W (js_S n) 5 md_148 11 [some (.inr (.inr 13)), some (.inl t), some (.inl b), some (.inl i)] [] σ (fun r σ' => ∃ v, r = some (.inr (.inl v)) ∧ jx_f89 σ0 σ' ∧ ((v = -2 ∧ σ0 103 56 = 0) ∨ (σ0 103 56 ≠ 0 ∧ ∃ b, jm_rgb σ0 (σ0 103 56) b ∧ v = if t = 2 then b else if t = 0 then (jm_rgt σ0 b).1 else (jm_rgt σ0 b).2)))
  | f, σ, b, i, i0, hk, HZ, H => by
    have ih : ∀ {σ' : jw_H} {b' : Int}, i < σ0 103 56 → jx_f89 σ0 σ' → ((b' = -1 ∧ i + 1 = 0) ∨ ((0 ≤ b' ∧ b' < i + 1) ∧ (σ' 98 0, σ' 98 1) = jm_rgt σ0 b' ∧ jm_rgb σ0 (i + 1) b')) → jw_W (js_S n) 5 md_148 11 [some (.inr (.inr 13)), some (.inl t), some (.inl b'), some (.inl (i + 1))] [] σ' (fun r σ' => ∃ v, r = some (.inr (.inl v)) ∧ jx_f89 σ0 σ' ∧ ((v = -2 ∧ σ0 103 56 = 0) ∨ (σ0 103 56 ≠ 0 ∧ ∃ b, jm_rgb σ0 (σ0 103 56) b ∧ v = if t = 2 then b else if t = 0 then (jm_rgt σ0 b).1 else (jm_rgt σ0 b).2))) := by
      intro σ' b' h1 h2 h3
      match f, hk with
      | 0, hk => omega
      | f + 1, hk => exact jx_rgr_loop hK0 t0 t1 f (by omega) (by omega) h2 h3
    have hP0 := hK0.2.1.1.1
    have hw0 := hP0.2.1
    have hcb0 := (jm_kw_cbd hK0.2.1.1).2 σ0 (jm_fk_rf σ0)
    have hcn0 := hcb0.1
    have hfy := jx_f89_y HZ
    have hme := jx_fx_me (jx_fy_x hfy)
    have hK := jx_K_y hfy hK0
    have e103 := hme 103 (by omega)
    have e4 : σ 103 4 = σ0 103 4 := by rw [e103]
    have e56 : σ 103 56 = σ0 103 56 := by rw [e103]
    have hbr : b = -1 ∨ (0 ≤ b ∧ b < i) := by
      rcases H with hh | hh
      · exact .inl hh.1
      · exact .inr hh.1
    have hbnd : 0 ≤ b → (-9000000 ≤ σ 98 0 ∧ σ 98 0 ≤ 9000000) ∧ (0 < σ 98 1 ∧ σ 98 1 ≤ 9000000) := fun hb => by
      obtain ⟨hb0, HS, -⟩ := H.resolve_left (fun hh => by omega)
      have h9 := (jm_rg_ok hP0 hcb0 hb0.1 (show b < σ0 103 56 by omega) (show 0 ≤ σ0 103 4 by omega) (Int.le_refl _)).1
      rw [show jm_rg σ0 b (σ0 103 4).toNat = jm_rgt σ0 b from rfl, ← HS] at h9
      exact h9
    have hI := hK.1
    obtain ⟨hto, hfo, hp, hP, e0, e1, e2, hPm, hcb, c0, p0, -⟩ := jx_I0_x hI
    have ho := hp.1
    have hq := hP.1
    have hw := hP.2.1
    have hq2 := hP.2.2.1
    have hcn := hcb.1
    refine jw_W_n 2 (i' := 13) (ls' := [some (.inr (.inr 13)), some (.inl t), some (.inl b), some (.inl i)]) (st' := [.inr (.inr 13), .inl i]) rfl ?_
    refine jw_W_gf rfl rfl rfl ?_
    show jw_W (js_S n) _ md_148 14 [some (.inr (.inr 13)), some (.inl t), some (.inl b), some (.inl i)] [.inr (.inr 57), .inl i] σ _
    refine jw_W_gf rfl rfl rfl ?_
    show jw_W (js_S n) _ md_148 15 [some (.inr (.inr 13)), some (.inl t), some (.inl b), some (.inl i)] [.inl (σ 57 0), .inl i] σ _
    refine jw_W_ic rfl (by unfold jw_rg; omega) (by unfold jw_rg; omega) (fun hc1 => ?_) (fun hc1 => ?_)
    · have hc1 : i ≥ (σ 57 0) := hc1
      refine jw_W_n 1 (i' := 45) (ls' := [some (.inr (.inr 13)), some (.inl t), some (.inl b), some (.inl i)]) (st' := [.inl b]) rfl ?_
      refine jw_W_if rfl (by unfold jw_rg; omega) (fun hc2 => ?_) (fun hc2 => ?_)
      · have hc2 : b ≥ 0 := hc2
        refine jw_W_n 2 (i' := 50) (ls' := [some (.inr (.inr 13)), some (.inl t), some (.inl b), some (.inl i)]) (st' := [.inl 2, .inl t]) rfl ?_
        refine jw_W_ic rfl (by unfold jw_rg; omega) (by unfold jw_rg; omega) (fun hc3 => ?_) (fun hc3 => ?_)
        · have hc3 : t ≠ 2 := hc3
          refine jw_W_n 1 (i' := 55) (ls' := [some (.inr (.inr 13)), some (.inl t), some (.inl b), some (.inl i)]) (st' := [.inr (.inr 13)]) rfl ?_
          refine jw_W_gf rfl rfl rfl ?_
          show jw_W (js_S n) _ md_148 56 [some (.inr (.inr 13)), some (.inl t), some (.inl b), some (.inl i)] [.inr (.inr 98)] σ _
          refine jw_W_n 1 (i' := 57) (ls' := [some (.inr (.inr 13)), some (.inl t), some (.inl b), some (.inl i)]) (st' := [.inl t, .inr (.inr 98)]) rfl ?_
          refine jw_W_call (as := [.inr (.inr 98), .inl t]) (rest := []) rfl rfl rfl rfl (Nat.le_of_ble_eq_true rfl) (.inr rfl) (jx_part (jx_fo_98 n) (by unfold jw_rg; omega)) (by omega) ?_ rfl
          rintro r1 σz ⟨rfl, hs⟩
          rw [hs]
          show jw_W (js_S n) _ md_148 58 [some (.inr (.inr 13)), some (.inl t), some (.inl b), some (.inl i)] [.inr (.inl (if t = 0 then σ 98 0 else σ 98 1))] σ _
          refine jw_W_lr rfl ?_
          have hkl : i = σ0 103 56 := by omega
          subst hkl
          obtain ⟨hb0, HS, HB⟩ := H.resolve_left (fun hh => by omega)
          refine ⟨_, rfl, HZ, .inr ⟨by omega, b, HB, ?_⟩⟩
          rw [← HS]
          show (if t = 0 then σ 98 0 else σ 98 1) = if t = 2 then b else if t = 0 then σ 98 0 else σ 98 1
          exact (if_neg (by omega)).symm
        · have hc3 : t = 2 := Classical.not_not.mp hc3
          refine jw_W_n 1 (i' := 52) (ls' := [some (.inr (.inr 13)), some (.inl t), some (.inl b), some (.inl i)]) (st' := [.inl b]) rfl ?_
          refine jw_W_i2l rfl (by unfold jw_rg; omega) ?_
          refine jw_W_n 1 (i' := 58) (ls' := [some (.inr (.inr 13)), some (.inl t), some (.inl b), some (.inl i)]) (st' := [.inr (.inl b)]) rfl ?_
          refine jw_W_lr rfl ?_
          have hkl : i = σ0 103 56 := by omega
          subst hkl
          obtain ⟨hb0, HS, HB⟩ := H.resolve_left (fun hh => by omega)
          exact ⟨_, rfl, HZ, .inr ⟨by omega, b, HB, by rw [if_pos (by omega)]⟩⟩
      · have hc2 : ¬ (b ≥ 0) := hc2
        refine jw_W_ld2 (z := (-2)) rfl rfl ?_
        refine jw_W_lr rfl ?_
        have hkl : i = σ0 103 56 := by omega
        subst hkl
        exact ⟨_, rfl, HZ, .inl ⟨rfl, by omega⟩⟩
    · have hc1 : ¬ (i ≥ (σ 57 0)) := hc1
      refine jw_W_n 2 (i' := 18) (ls' := [some (.inr (.inr 13)), some (.inl t), some (.inl b), some (.inl i)]) (st' := [.inl i, .inr (.inr 13)]) rfl ?_
      refine jw_W_call (as := [.inr (.inr 13), .inl i]) (rest := []) rfl rfl rfl rfl (Nat.le_of_ble_eq_true rfl) (.inr rfl) (jx_findRegret hK i0 (by omega)) (by omega) ?_ rfl
      rintro r1 σ1 ⟨rfl, hf, hr⟩
      have hZ1 : jx_f89 σ0 σ1 := fun c h1 h2 h3 => (hf c h3).trans (HZ c h1 h2 h3)
      have e98 := hf 98 (by omega)
      rw [jm_rgt_me hme] at hr
      obtain ⟨hrb, hid⟩ := jm_rg_ok hP0 hcb0 i0 (show i < σ0 103 56 by omega) (show 0 ≤ σ0 103 4 by omega) (Int.le_refl _)
      rw [show jm_rg σ0 i (σ0 103 4).toNat = jm_rgt σ0 i from rfl] at hrb hid
      have hrb2 := hrb
      rw [← hr] at hrb2
      unfold jm_rb at hrb2
      dsimp only at hrb2
      show jw_W (js_S n) _ md_148 19 [some (.inr (.inr 13)), some (.inl t), some (.inl b), some (.inl i)] [] σ1 _
      have hrbt : ∀ c, 0 ≤ c → c ≤ i → 0 < (jm_rgt σ0 c).2 := fun c c0 c1 => (jm_rg_ok hP0 hcb0 c0 (show c < σ0 103 56 by omega) (show 0 ≤ σ0 103 4 by omega) (Int.le_refl _)).1.2.1
      have hb98 : ¬ b < 0 → (-9000000 ≤ σ1 98 0 ∧ σ1 98 0 ≤ 9000000) ∧ (0 < σ1 98 1 ∧ σ1 98 1 ≤ 9000000) := fun hb => by rw [e98]; exact hbnd (by omega)
      refine jw_W_n 1 (i' := 20) (ls' := [some (.inr (.inr 13)), some (.inl t), some (.inl b), some (.inl i)]) (st' := [.inl b]) rfl ?_
      refine jw_W_if rfl (by unfold jw_rg; omega) (fun hc4 => ?_) (fun hc4 => ?_)
      · have hc4 : b < 0 := hc4
        refine jw_W_n 3 (i' := 34) (ls' := [some (.inr (.inr 13)), some (.inl t), some (.inl i), some (.inl i)]) (st' := [.inr (.inr 13)]) rfl ?_
        refine jw_W_gf rfl rfl rfl ?_
        show jw_W (js_S n) _ md_148 35 [some (.inr (.inr 13)), some (.inl t), some (.inl i), some (.inl i)] [.inr (.inr 98)] σ1 _
        refine jw_W_n 1 (i' := 36) (ls' := [some (.inr (.inr 13)), some (.inl t), some (.inl i), some (.inl i)]) (st' := [.inr (.inr 13), .inr (.inr 98)]) rfl ?_
        refine jw_W_gf rfl rfl rfl ?_
        show jw_W (js_S n) _ md_148 37 [some (.inr (.inr 13)), some (.inl t), some (.inl i), some (.inl i)] [.inr (.inr 99), .inr (.inr 98)] σ1 _
        refine jw_W_gf rfl rfl rfl ?_
        show jw_W (js_S n) _ md_148 38 [some (.inr (.inr 13)), some (.inl t), some (.inl i), some (.inl i)] [.inr (.inl (σ1 99 0)), .inr (.inr 98)] σ1 _
        refine jw_W_n 1 (i' := 39) (ls' := [some (.inr (.inr 13)), some (.inl t), some (.inl i), some (.inl i)]) (st' := [.inr (.inr 13), .inr (.inl (σ1 99 0)), .inr (.inr 98)]) rfl ?_
        refine jw_W_gf rfl rfl rfl ?_
        show jw_W (js_S n) _ md_148 40 [some (.inr (.inr 13)), some (.inl t), some (.inl i), some (.inl i)] [.inr (.inr 99), .inr (.inl (σ1 99 0)), .inr (.inr 98)] σ1 _
        refine jw_W_gf rfl rfl rfl ?_
        show jw_W (js_S n) _ md_148 41 [some (.inr (.inr 13)), some (.inl t), some (.inl i), some (.inl i)] [.inr (.inl (σ1 99 1)), .inr (.inl (σ1 99 0)), .inr (.inr 98)] σ1 _
        refine jw_W_call (as := [.inr (.inr 98), .inr (.inl (σ1 99 0)), .inr (.inl (σ1 99 1))]) (rest := []) rfl rfl rfl rfl (Nat.le_of_ble_eq_true rfl) (.inr rfl) (jx_set (jx_fo_98 n) (by unfold jm_bg; omega) (by unfold jm_bg; omega) (by omega)) (by omega) ?_ rfl
        rintro r1 σ2 ⟨rfl, hs⟩
        have hZ2 : jx_f89 σ0 σ2 := by rw [hs]; exact fun c h1 h2 h3 => (jx_fs_o σ1 _ h2).trans (hZ1 c h1 h2 h3)
        have hs2 : (σ2 98 0, σ2 98 1) = jm_rgt σ0 i := by rw [hs, ← hid, ← hr]; rfl
        show jw_W (js_S n) _ md_148 42 [some (.inr (.inr 13)), some (.inl t), some (.inl i), some (.inl i)] [] σ2 _
        refine jw_W_n 2 (i' := 11) (ls' := [some (.inr (.inr 13)), some (.inl t), some (.inl i), some (.inl (i + 1))]) (st' := []) rfl ?_
        refine ih (by omega) hZ2 (.inr ⟨by omega, hs2, ?_⟩)
        by_cases hbn : b < 0
        · have hi0 : i = 0 := by
            rcases H with hh | hh
            · exact hh.2
            · omega
          rw [hi0]
          exact jm_rgb_1 σ0
        · obtain ⟨hb0, HS, HB⟩ := H.resolve_left (fun hh => by omega)
          refine jm_rgb_yes hrbt i0 HB ?_
          unfold jm_rlt
          have HS1 : (σ1 98 0, σ1 98 1) = jm_rgt σ0 b := by rw [e98]; exact HS
          rw [← hr, ← HS1]
          first | exact hbl | omega
      · have hc4 : ¬ (b < 0) := hc4
        have hb98b := hb98 (by assumption)
        obtain ⟨hb0, HS, HB⟩ := H.resolve_left (fun hh => by omega)
        have HS1 : (σ1 98 0, σ1 98 1) = jm_rgt σ0 b := by rw [e98]; exact HS
        refine jw_W_n 1 (i' := 22) (ls' := [some (.inr (.inr 13)), some (.inl t), some (.inl b), some (.inl i)]) (st' := [.inr (.inr 13)]) rfl ?_
        refine jw_W_gf rfl rfl rfl ?_
        show jw_W (js_S n) _ md_148 23 [some (.inr (.inr 13)), some (.inl t), some (.inl b), some (.inl i)] [.inr (.inr 99)] σ1 _
        refine jw_W_n 1 (i' := 24) (ls' := [some (.inr (.inr 13)), some (.inl t), some (.inl b), some (.inl i)]) (st' := [.inr (.inr 13), .inr (.inr 99)]) rfl ?_
        refine jw_W_gf rfl rfl rfl ?_
        show jw_W (js_S n) _ md_148 25 [some (.inr (.inr 13)), some (.inl t), some (.inl b), some (.inl i)] [.inr (.inr 98), .inr (.inr 99)] σ1 _
        refine jw_W_gf rfl rfl rfl ?_
        show jw_W (js_S n) _ md_148 26 [some (.inr (.inr 13)), some (.inl t), some (.inl b), some (.inl i)] [.inr (.inl (σ1 98 0)), .inr (.inr 99)] σ1 _
        refine jw_W_n 1 (i' := 27) (ls' := [some (.inr (.inr 13)), some (.inl t), some (.inl b), some (.inl i)]) (st' := [.inr (.inr 13), .inr (.inl (σ1 98 0)), .inr (.inr 99)]) rfl ?_
        refine jw_W_gf rfl rfl rfl ?_
        show jw_W (js_S n) _ md_148 28 [some (.inr (.inr 13)), some (.inl t), some (.inl b), some (.inl i)] [.inr (.inr 98), .inr (.inl (σ1 98 0)), .inr (.inr 99)] σ1 _
        refine jw_W_gf rfl rfl rfl ?_
        show jw_W (js_S n) _ md_148 29 [some (.inr (.inr 13)), some (.inl t), some (.inl b), some (.inl i)] [.inr (.inl (σ1 98 1)), .inr (.inl (σ1 98 0)), .inr (.inr 99)] σ1 _
        refine jw_W_call (as := [.inr (.inr 99), .inr (.inl (σ1 98 0)), .inr (.inl (σ1 98 1))]) (rest := []) rfl rfl rfl rfl (Nat.le_of_ble_eq_true rfl) (.inr rfl) (jx_isBelow (jx_fo_99 n) (jx_bgm (by omega) (by omega)) (jx_bgm (by omega) (by omega))) (by omega) ?_ rfl
        rintro r1 σz (⟨rfl, hs, hbl⟩ | ⟨rfl, hs, hbl⟩)
        · rw [hs]
          show jw_W (js_S n) _ md_148 30 [some (.inr (.inr 13)), some (.inl t), some (.inl b), some (.inl i)] [.inl 1] σ1 _
          refine jw_W_if rfl (by unfold jw_rg; omega) (fun hc5 => ?_) (fun hc5 => ?_)
          · exact absurd hc5 (show ¬ ((1 : Int) = 0) by omega)
          · clear hc5
            refine jw_W_n 3 (i' := 34) (ls' := [some (.inr (.inr 13)), some (.inl t), some (.inl i), some (.inl i)]) (st' := [.inr (.inr 13)]) rfl ?_
            refine jw_W_gf rfl rfl rfl ?_
            show jw_W (js_S n) _ md_148 35 [some (.inr (.inr 13)), some (.inl t), some (.inl i), some (.inl i)] [.inr (.inr 98)] σ1 _
            refine jw_W_n 1 (i' := 36) (ls' := [some (.inr (.inr 13)), some (.inl t), some (.inl i), some (.inl i)]) (st' := [.inr (.inr 13), .inr (.inr 98)]) rfl ?_
            refine jw_W_gf rfl rfl rfl ?_
            show jw_W (js_S n) _ md_148 37 [some (.inr (.inr 13)), some (.inl t), some (.inl i), some (.inl i)] [.inr (.inr 99), .inr (.inr 98)] σ1 _
            refine jw_W_gf rfl rfl rfl ?_
            show jw_W (js_S n) _ md_148 38 [some (.inr (.inr 13)), some (.inl t), some (.inl i), some (.inl i)] [.inr (.inl (σ1 99 0)), .inr (.inr 98)] σ1 _
            refine jw_W_n 1 (i' := 39) (ls' := [some (.inr (.inr 13)), some (.inl t), some (.inl i), some (.inl i)]) (st' := [.inr (.inr 13), .inr (.inl (σ1 99 0)), .inr (.inr 98)]) rfl ?_
            refine jw_W_gf rfl rfl rfl ?_
            show jw_W (js_S n) _ md_148 40 [some (.inr (.inr 13)), some (.inl t), some (.inl i), some (.inl i)] [.inr (.inr 99), .inr (.inl (σ1 99 0)), .inr (.inr 98)] σ1 _
            refine jw_W_gf rfl rfl rfl ?_
            show jw_W (js_S n) _ md_148 41 [some (.inr (.inr 13)), some (.inl t), some (.inl i), some (.inl i)] [.inr (.inl (σ1 99 1)), .inr (.inl (σ1 99 0)), .inr (.inr 98)] σ1 _
            refine jw_W_call (as := [.inr (.inr 98), .inr (.inl (σ1 99 0)), .inr (.inl (σ1 99 1))]) (rest := []) rfl rfl rfl rfl (Nat.le_of_ble_eq_true rfl) (.inr rfl) (jx_set (jx_fo_98 n) (by unfold jm_bg; omega) (by unfold jm_bg; omega) (by omega)) (by omega) ?_ rfl
            rintro r1 σ2 ⟨rfl, hs⟩
            have hZ2 : jx_f89 σ0 σ2 := by rw [hs]; exact fun c h1 h2 h3 => (jx_fs_o σ1 _ h2).trans (hZ1 c h1 h2 h3)
            have hs2 : (σ2 98 0, σ2 98 1) = jm_rgt σ0 i := by rw [hs, ← hid, ← hr]; rfl
            show jw_W (js_S n) _ md_148 42 [some (.inr (.inr 13)), some (.inl t), some (.inl i), some (.inl i)] [] σ2 _
            refine jw_W_n 2 (i' := 11) (ls' := [some (.inr (.inr 13)), some (.inl t), some (.inl i), some (.inl (i + 1))]) (st' := []) rfl ?_
            refine ih (by omega) hZ2 (.inr ⟨by omega, hs2, ?_⟩)
            by_cases hbn : b < 0
            · have hi0 : i = 0 := by
                rcases H with hh | hh
                · exact hh.2
                · omega
              rw [hi0]
              exact jm_rgb_1 σ0
            · obtain ⟨hb0, HS, HB⟩ := H.resolve_left (fun hh => by omega)
              refine jm_rgb_yes hrbt i0 HB ?_
              unfold jm_rlt
              have HS1 : (σ1 98 0, σ1 98 1) = jm_rgt σ0 b := by rw [e98]; exact HS
              rw [← hr, ← HS1]
              first | exact hbl | omega
        · rw [hs]
          show jw_W (js_S n) _ md_148 30 [some (.inr (.inr 13)), some (.inl t), some (.inl b), some (.inl i)] [.inl 0] σ1 _
          refine jw_W_if rfl (by unfold jw_rg; omega) (fun hc6 => ?_) (fun hc6 => ?_)
          · clear hc6
            refine jw_W_n 2 (i' := 11) (ls' := [some (.inr (.inr 13)), some (.inl t), some (.inl b), some (.inl (i + 1))]) (st' := []) rfl ?_
            refine ih (by omega) hZ1 (.inr ⟨by omega, HS1, jm_rgb_no HB ?_⟩)
            unfold jm_rlt
            rw [← hr, ← HS1]
            exact hbl
          · exact absurd hc6 (show ¬ ¬ ((0 : Int) = 0) by omega)
theorem jx_regret {n : Nat} {σ : jw_H} {o : Nat} {C : List (ge_R × Int)} (hK : jx_K n o C σ) {t : Int} (ht : jw_rg t) : jw_T (js_S n) 6 148 [.inr (.inr 13), .inl t] σ (fun r σ' => ∃ v, r = some (.inr (.inl v)) ∧ jx_fy σ σ' ∧ jm_rga σ t v) := by
  refine jw_T_of (D := 5) (M := mm_148) rfl (Nat.le_of_ble_eq_true rfl) (ls0 := [some (.inr (.inr 13)), some (.inl t), none, none]) rfl ?_ (by rintro _ _ ⟨_, rfl, -⟩; rfl)
  have hI := hK.1
  obtain ⟨hto, hfo, hp, hP, e0, e1, e2, hPm, hcb, c0, p0, -⟩ := jx_I0_x hI
  have ho := hp.1
  have hq := hP.1
  have hw := hP.2.1
  have hq2 := hP.2.2.1
  have hcn := hcb.1
  have rht := ht
  unfold jw_rg at rht
  refine jw_W_n 1 (i' := 1) (ls' := [some (.inr (.inr 13)), some (.inl t), none, none]) (st' := [.inl t]) rfl ?_
  refine jw_W_if rfl (by unfold jw_rg; omega) (fun hc1 => ?_) (fun hc1 => ?_)
  · have hc1 : t < 0 := hc1
    refine jw_W_ld2 (z := (-1)) rfl rfl ?_
    refine jw_W_lr rfl ?_
    exact ⟨_, rfl, jx_fy_rf σ, .inl ⟨rfl, by omega⟩⟩
  · have hc1 : ¬ (t < 0) := hc1
    refine jw_W_n 2 (i' := 4) (ls' := [some (.inr (.inr 13)), some (.inl t), none, none]) (st' := [.inl 2, .inl t]) rfl ?_
    refine jw_W_ic rfl (by unfold jw_rg; omega) (by unfold jw_rg; omega) (fun hc2 => ?_) (fun hc2 => ?_)
    · have hc2 : t ≤ 2 := hc2
      refine jw_W_n 4 (i' := 11) (ls' := [some (.inr (.inr 13)), some (.inl t), some (.inl ((-1))), some (.inl 0)]) (st' := []) rfl ?_
      refine jw_W_mono (jx_rgr_loop hK (by omega) (by omega) (σ 103 56).toNat (b := -1) (i := 0) (by omega) (by omega) (fun _ _ _ _ => rfl) (.inl ⟨rfl, rfl⟩)) ?_
      rintro r σ' ⟨v, rfl, hf2, hv⟩
      exact ⟨_, rfl, jx_f89_y hf2, .inr ⟨by omega, hv⟩⟩
    · have hc2 : ¬ (t ≤ 2) := hc2
      refine jw_W_ld2 (z := (-1)) rfl rfl ?_
      refine jw_W_lr rfl ?_
      exact ⟨_, rfl, jx_fy_rf σ, .inl ⟨rfl, by omega⟩⟩

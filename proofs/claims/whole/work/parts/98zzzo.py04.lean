/-! ===== problem (reference) ===== -/
theorem jk_probR_loop {n D : Nat} {Q : Option jw_V → jw_H → Prop} {b : Int → Int} {m k : Int} {σ0 P : jw_H} (hD : 6 ≤ D) (hQ : ∀ (τ : jw_H) (g : Int), jk_mp b m σ0 P (some (.inl g)) τ → jw_W (js_S n) D md_224 57 [some (.inr (.inr 103)), some (.inl k), some (.inl g), none] [] τ Q) : ∀ (f : Nat) {s τ : jw_H} {g : Int}, jk_mp b m σ0 s (some (.inl g)) τ → (s 0 0 = 0 → m < s 0 1 + f) → jk_pr b m f s = P → jw_W (js_S n) D md_224 38 [some (.inr (.inr 103)), some (.inl k), some (.inl g), none] [] τ Q
  | f, s, τ, g, hmp, hfu, hP => by
    obtain ⟨hfm, ⟨hg, hs, h10⟩ | ⟨hg, hml, hmx⟩⟩ := hmp
    · cases hg
      have hmp : jk_mp b m σ0 s (some (.inl 0)) τ := ⟨hfm, .inl ⟨rfl, hs, h10⟩⟩
      refine jw_W_n 1 (i' := 39) (ls' := [some (.inr (.inr 103)), some (.inl k), some (.inl 0), none]) (st' := [.inl 0]) rfl ?_
      refine jw_W_if rfl (by unfold jw_rg; omega) (fun hc1 => ?_) (fun hc1 => ?_)
      · clear hc1
        exact hQ _ _ (by rw [← hP, jk_pr_no (fun hh => hs hh.1)]; exact hmp)
      · exact absurd hc1 (show ¬ ¬ ((0 : Int) = 0) by omega)
    · cases hg
      have hmp : jk_mp b m σ0 s (some (.inl 1)) τ := ⟨hfm, .inr ⟨rfl, hml, hmx⟩⟩
      obtain ⟨ht, em, h8, h34, h35, h36, h37⟩ := id hmx
      have l0 := hml.1
      have l8 := hml.2.1
      have go : ∀ {s' τ' : jw_H} {g' : Int}, jk_mp b m σ0 s' (some (.inl g')) τ' → (s' 0 0 = 0 → s 0 1 < s' 0 1) → (∀ f, jk_pr b m (f + 1) s = jk_pr b m f s') → s 0 1 < m → jw_W (js_S n) D md_224 38 [some (.inr (.inr 103)), some (.inl k), some (.inl g'), none] [] τ' Q := by
        intro s' τ' g' hm' hlt hst hlm
        have hf1 := hfu l0
        match f, hf1, hP with
        | 0, hf1, hP => omega
        | f + 1, hf1, hP => exact jk_probR_loop hD hQ f hm' (fun hz => by have := hlt hz; omega) (by rw [← hst f]; exact hP)
      refine jw_W_n 1 (i' := 39) (ls' := [some (.inr (.inr 103)), some (.inl k), some (.inl 1), none]) (st' := [.inl 1]) rfl ?_
      refine jw_W_if rfl (by unfold jw_rg; omega) (fun hc1 => ?_) (fun hc1 => ?_)
      · exact absurd hc1 (show ¬ ((1 : Int) = 0) by omega)
      · clear hc1
        refine jw_W_n 1 (i' := 41) (ls' := [some (.inr (.inr 103)), some (.inl k), some (.inl 1), none]) (st' := [.inr (.inr 103)]) rfl ?_
        refine jw_W_gf rfl rfl rfl ?_
        show jw_W (js_S n) _ md_224 42 [some (.inr (.inr 103)), some (.inl k), some (.inl 1), none] [.inl (τ 103 8)] τ _
        refine jw_W_n 1 (i' := 43) (ls' := [some (.inr (.inr 103)), some (.inl k), some (.inl 1), none]) (st' := [.inr (.inr 103), .inl (τ 103 8)]) rfl ?_
        refine jw_W_gf rfl rfl rfl ?_
        show jw_W (js_S n) _ md_224 44 [some (.inr (.inr 103)), some (.inl k), some (.inl 1), none] [.inl (τ 103 9), .inl (τ 103 8)] τ _
        refine jw_W_ic rfl (by unfold jw_rg; omega) (by unfold jw_rg; omega) (fun hc2 => ?_) (fun hc2 => ?_)
        · have hc2 : (τ 103 8) ≥ (τ 103 9) := hc2
          exact hQ _ _ (by rw [← hP, jk_pr_no (by omega)]; exact hmp)
        · have hc2 : ¬ ((τ 103 8) ≥ (τ 103 9)) := hc2
          refine jw_W_n 2 (i' := 47) (ls' := [some (.inr (.inr 103)), some (.inl k), some (.inl 1), none]) (st' := [.inl 59, .inr (.inr 103)]) rfl ?_
          refine jw_W_call (as := [.inr (.inr 103), .inl 59]) (rest := []) rfl rfl rfl rfl (Nat.le_of_ble_eq_true rfl) (.inr rfl) (jk_takes hmx.1 (x := 59) (by unfold jw_rg; omega)) (by omega) ?_ rfl
          rintro r1 σ1 (⟨rfl, h59, hs1⟩ | ⟨rfl, h59, hs1⟩)
          · rename jw_H => σ1
            rw [em, l8] at h59
            rw [l8] at hs1
            have hat := jk_ml_at (τ := σ1) (i := s 0 1 + 1) hml hmx (fun c hc => by rw [hs1, jw_up_out _ _ _ hc]) (fun j d1 d2 d3 => by rw [hs1, jw_up_ne _ (by omega)]) (by rw [hs1, jw_up_eq]) (by omega)
            have f1 : jk_fm σ0 σ1 := by rw [hs1]; exact jk_fm_up hfm (by omega)
            show jw_W (js_S n) _ md_224 48 [some (.inr (.inr 103)), some (.inl k), some (.inl 1), none] [.inl 1] σ1 _
            refine jw_W_if rfl (by unfold jw_rg; omega) (fun hc3 => ?_) (fun hc3 => ?_)
            · exact absurd hc3 (show ¬ ((1 : Int) = 0) by omega)
            · clear hc3
              refine jw_W_n 1 (i' := 50) (ls' := [some (.inr (.inr 103)), some (.inl k), some (.inl 1), none]) (st' := [.inr (.inr 103)]) rfl ?_
              refine jw_W_call (as := [.inr (.inr 103)]) (rest := []) rfl rfl rfl rfl (Nat.le_of_ble_eq_true rfl) (.inr rfl) (jk_mp_or (jk_readsLine hat.2 hat.1)) (by omega) ?_ rfl
              rintro r1 σ2 (⟨rfl, hP2⟩ | ⟨rfl, hP2⟩)
              · rename jw_H => σ2
                rw [show jk_at s (s 0 1 + 1) 0 1 = s 0 1 + 1 from rfl, jk_pl_at] at hP2
                show jw_W (js_S n) _ md_224 51 [some (.inr (.inr 103)), some (.inl k), some (.inl 1), none] [.inl 0] σ2 _
                refine jw_W_if rfl (by unfold jw_rg; omega) (fun hc4 => ?_) (fun hc4 => ?_)
                · clear hc4
                  refine jw_W_n 3 (i' := 38) (ls' := [some (.inr (.inr 103)), some (.inl k), some (.inl 0), none]) (st' := []) rfl ?_
                  exact go (jk_mp_tr f1 hP2) (fun hz => by have := jk_pl_gt (by omega) (by omega) hz; omega) (fun f => jk_pr_go ⟨l0, by omega⟩ h59 f) (by omega)
                · exact absurd hc4 (show ¬ ¬ ((0 : Int) = 0) by omega)
              · rename jw_H => σ2
                rw [show jk_at s (s 0 1 + 1) 0 1 = s 0 1 + 1 from rfl, jk_pl_at] at hP2
                show jw_W (js_S n) _ md_224 51 [some (.inr (.inr 103)), some (.inl k), some (.inl 1), none] [.inl 1] σ2 _
                refine jw_W_if rfl (by unfold jw_rg; omega) (fun hc5 => ?_) (fun hc5 => ?_)
                · exact absurd hc5 (show ¬ ((1 : Int) = 0) by omega)
                · clear hc5
                  refine jw_W_n 4 (i' := 38) (ls' := [some (.inr (.inr 103)), some (.inl k), some (.inl 1), none]) (st' := []) rfl ?_
                  exact go (jk_mp_tr f1 hP2) (fun hz => by have := jk_pl_gt (by omega) (by omega) hz; omega) (fun f => jk_pr_go ⟨l0, by omega⟩ h59 f) (by omega)
          · rename jw_H => σt
            rw [em, l8] at h59
            rw [l8] at hs1
            show jw_W (js_S n) _ md_224 48 [some (.inr (.inr 103)), some (.inl k), some (.inl 1), none] [.inl 0] σt _
            refine jw_W_if rfl (by unfold jw_rg; omega) (fun hc6 => ?_) (fun hc6 => ?_)
            · clear hc6
              refine jw_W_n 3 (i' := 38) (ls' := [some (.inr (.inr 103)), some (.inl k), some (.inl 0), none]) (st' := []) rfl ?_
              exact go (jk_mp_bad (F := -1000 * 1 - s 0 1) (by rw [hs1]; exact jk_fm_up hfm (by omega)) (by omega) (by rw [hs1, jw_up_eq])) (fun hz => absurd hz (show -1000 * 1 - s 0 1 ≠ 0 by omega)) (fun f => by rw [jk_pr_bad ⟨l0, by omega⟩ h59 f, jk_pr_no (fun hh => absurd hh.1 (show -1000 * 1 - s 0 1 ≠ 0 by omega)) f]) (by omega)
            · exact absurd hc6 (show ¬ ¬ ((0 : Int) = 0) by omega)
def jk_cp (σ0 σ : jw_H) (a b c : Int) : Prop := (∀ o, (o < 104 ∨ 106 < o) → σ o = σ0 o) ∧ (∀ j, 0 ≤ j → j < a → σ 104 j = σ0 121 j) ∧ (∀ j, 0 ≤ j → j < b → σ 105 j = σ0 122 j) ∧ ∀ j, 0 ≤ j → j < c → σ 106 j = σ0 123 j
theorem jk_cp_a {σ0 σ : jw_H} {a b c : Int} (h : jk_cp σ0 σ a b c) : jk_cp σ0 (jw_up σ 104 a (σ 121 a)) (a + 1) b c := by
  obtain ⟨h1, r1, r2, r3⟩ := h
  refine ⟨fun o o1 => ?_, fun j j0 j1 => ?_, r2, r3⟩
  · rw [jw_up_out _ _ _ (by omega)]
    exact h1 o o1
  · by_cases e : j = a
    · rw [e, jw_up_eq, h1 121 (by omega)]
    · rw [jw_up_ne _ (by omega)]
      exact r1 j j0 (by omega)
theorem jk_cp_b {σ0 σ : jw_H} {a b c : Int} (h : jk_cp σ0 σ a b c) : jk_cp σ0 (jw_up σ 105 b (σ 122 b)) a (b + 1) c := by
  obtain ⟨h1, r1, r2, r3⟩ := h
  refine ⟨fun o o1 => ?_, r1, fun j j0 j1 => ?_, r3⟩
  · rw [jw_up_out _ _ _ (by omega)]
    exact h1 o o1
  · by_cases e : j = b
    · rw [e, jw_up_eq, h1 122 (by omega)]
    · rw [jw_up_ne _ (by omega)]
      exact r2 j j0 (by omega)
theorem jk_cp_c {σ0 σ : jw_H} {a b c : Int} (h : jk_cp σ0 σ a b c) : jk_cp σ0 (jw_up σ 106 c (σ 123 c)) a b (c + 1) := by
  obtain ⟨h1, r1, r2, r3⟩ := h
  refine ⟨fun o o1 => ?_, r1, r2, fun j j0 j1 => ?_⟩
  · rw [jw_up_out _ _ _ (by omega)]
    exact h1 o o1
  · by_cases e : j = c
    · rw [e, jw_up_eq, h1 123 (by omega)]
    · rw [jw_up_ne _ (by omega)]
      exact r3 j j0 (by omega)
theorem jk_prob_a {n : Nat} {σ0 : jw_H} {D : Nat} {k : Int} {Q : Option jw_V → jw_H → Prop} (hQ : ∀ σ, jk_cp σ0 σ 9 0 0 → jw_W (js_S n) D md_224 92 [some (.inr (.inr 103)), some (.inl k), some (.inl 1), some (.inl 9)] [] σ Q) : ∀ (f : Nat) {σ : jw_H} {i : Int}, 0 ≤ i → i + f = 9 → jk_cp σ0 σ i 0 0 → jw_W (js_S n) D md_224 79 [some (.inr (.inr 103)), some (.inl k), some (.inl 1), some (.inl i)] [] σ Q
  | f, σ, i, i0, hk, H => by
    have ih : ∀ {σ' : jw_H}, i < 9 → jk_cp σ0 σ' (i + 1) 0 0 → jw_W (js_S n) D md_224 79 [some (.inr (.inr 103)), some (.inl k), some (.inl 1), some (.inl (i + 1))] [] σ' Q := by
      intro σ' h1 h2
      match f, hk with
      | 0, hk => omega
      | f + 1, hk => exact jk_prob_a hQ f (by omega) (by omega) h2
    refine jw_W_n 2 (i' := 81) (ls' := [some (.inr (.inr 103)), some (.inl k), some (.inl 1), some (.inl i)]) (st' := [.inl 9, .inl i]) rfl ?_
    refine jw_W_ic rfl (by unfold jw_rg; omega) (by unfold jw_rg; omega) (fun hc1 => ?_) (fun hc1 => ?_)
    · have hc1 : i ≥ 9 := hc1
      have hkl : i = 9 := by omega
      subst hkl
      exact hQ σ H
    · have hc1 : ¬ (i ≥ 9) := hc1
      refine jw_W_n 1 (i' := 83) (ls' := [some (.inr (.inr 103)), some (.inl k), some (.inl 1), some (.inl i)]) (st' := [.inr (.inr 103)]) rfl ?_
      refine jw_W_gf rfl rfl rfl ?_
      show jw_W (js_S n) _ md_224 84 [some (.inr (.inr 103)), some (.inl k), some (.inl 1), some (.inl i)] [.inr (.inr 104)] σ _
      refine jw_W_n 2 (i' := 86) (ls' := [some (.inr (.inr 103)), some (.inl k), some (.inl 1), some (.inl i)]) (st' := [.inr (.inr 103), .inl i, .inr (.inr 104)]) rfl ?_
      refine jw_W_gf rfl rfl rfl ?_
      show jw_W (js_S n) _ md_224 87 [some (.inr (.inr 103)), some (.inl k), some (.inl 1), some (.inl i)] [.inr (.inr 121), .inl i, .inr (.inr 104)] σ _
      refine jw_W_n 1 (i' := 88) (ls' := [some (.inr (.inr 103)), some (.inl k), some (.inl 1), some (.inl i)]) (st' := [.inl i, .inr (.inr 121), .inl i, .inr (.inr 104)]) rfl ?_
      refine jw_W_ia rfl rfl (by omega) (by omega) (by omega) ?_
      show jw_W (js_S n) _ md_224 89 [some (.inr (.inr 103)), some (.inl k), some (.inl 1), some (.inl i)] [.inl (σ 121 i), .inl i, .inr (.inr 104)] σ _
      refine jw_W_is rfl (by omega) rfl (by omega) (by omega) (by omega) ?_
      refine jw_W_n 2 (i' := 79) (ls' := [some (.inr (.inr 103)), some (.inl k), some (.inl 1), some (.inl (i + 1))]) (st' := []) rfl ?_
      exact ih (by omega) (jk_cp_a H)
theorem jk_prob_b {n : Nat} {σ0 : jw_H} {D : Nat} {k : Int} {Q : Option jw_V → jw_H → Prop} (hQ : ∀ σ, jk_cp σ0 σ 9 20 0 → jw_W (js_S n) D md_224 107 [some (.inr (.inr 103)), some (.inl k), some (.inl 1), some (.inl 20)] [] σ Q) : ∀ (f : Nat) {σ : jw_H} {i : Int}, 0 ≤ i → i + f = 20 → jk_cp σ0 σ 9 i 0 → jw_W (js_S n) D md_224 94 [some (.inr (.inr 103)), some (.inl k), some (.inl 1), some (.inl i)] [] σ Q
  | f, σ, i, i0, hk, H => by
    have ih : ∀ {σ' : jw_H}, i < 20 → jk_cp σ0 σ' 9 (i + 1) 0 → jw_W (js_S n) D md_224 94 [some (.inr (.inr 103)), some (.inl k), some (.inl 1), some (.inl (i + 1))] [] σ' Q := by
      intro σ' h1 h2
      match f, hk with
      | 0, hk => omega
      | f + 1, hk => exact jk_prob_b hQ f (by omega) (by omega) h2
    refine jw_W_n 2 (i' := 96) (ls' := [some (.inr (.inr 103)), some (.inl k), some (.inl 1), some (.inl i)]) (st' := [.inl 20, .inl i]) rfl ?_
    refine jw_W_ic rfl (by unfold jw_rg; omega) (by unfold jw_rg; omega) (fun hc1 => ?_) (fun hc1 => ?_)
    · have hc1 : i ≥ 20 := hc1
      have hkl : i = 20 := by omega
      subst hkl
      exact hQ σ H
    · have hc1 : ¬ (i ≥ 20) := hc1
      refine jw_W_n 1 (i' := 98) (ls' := [some (.inr (.inr 103)), some (.inl k), some (.inl 1), some (.inl i)]) (st' := [.inr (.inr 103)]) rfl ?_
      refine jw_W_gf rfl rfl rfl ?_
      show jw_W (js_S n) _ md_224 99 [some (.inr (.inr 103)), some (.inl k), some (.inl 1), some (.inl i)] [.inr (.inr 105)] σ _
      refine jw_W_n 2 (i' := 101) (ls' := [some (.inr (.inr 103)), some (.inl k), some (.inl 1), some (.inl i)]) (st' := [.inr (.inr 103), .inl i, .inr (.inr 105)]) rfl ?_
      refine jw_W_gf rfl rfl rfl ?_
      show jw_W (js_S n) _ md_224 102 [some (.inr (.inr 103)), some (.inl k), some (.inl 1), some (.inl i)] [.inr (.inr 122), .inl i, .inr (.inr 105)] σ _
      refine jw_W_n 1 (i' := 103) (ls' := [some (.inr (.inr 103)), some (.inl k), some (.inl 1), some (.inl i)]) (st' := [.inl i, .inr (.inr 122), .inl i, .inr (.inr 105)]) rfl ?_
      refine jw_W_ia rfl rfl (by omega) (by omega) (by omega) ?_
      show jw_W (js_S n) _ md_224 104 [some (.inr (.inr 103)), some (.inl k), some (.inl 1), some (.inl i)] [.inl (σ 122 i), .inl i, .inr (.inr 105)] σ _
      refine jw_W_is rfl (by omega) rfl (by omega) (by omega) (by omega) ?_
      refine jw_W_n 2 (i' := 94) (ls' := [some (.inr (.inr 103)), some (.inl k), some (.inl 1), some (.inl (i + 1))]) (st' := []) rfl ?_
      exact ih (by omega) (jk_cp_b H)
theorem jk_prob_c {n : Nat} {σ0 : jw_H} {D : Nat} {k : Int} {Q : Option jw_V → jw_H → Prop} (hQ : ∀ σ, jk_cp σ0 σ 9 20 3 → jw_W (js_S n) D md_224 122 [some (.inr (.inr 103)), some (.inl k), some (.inl 1), some (.inl 3)] [] σ Q) : ∀ (f : Nat) {σ : jw_H} {i : Int}, 0 ≤ i → i + f = 3 → jk_cp σ0 σ 9 20 i → jw_W (js_S n) D md_224 109 [some (.inr (.inr 103)), some (.inl k), some (.inl 1), some (.inl i)] [] σ Q
  | f, σ, i, i0, hk, H => by
    have ih : ∀ {σ' : jw_H}, i < 3 → jk_cp σ0 σ' 9 20 (i + 1) → jw_W (js_S n) D md_224 109 [some (.inr (.inr 103)), some (.inl k), some (.inl 1), some (.inl (i + 1))] [] σ' Q := by
      intro σ' h1 h2
      match f, hk with
      | 0, hk => omega
      | f + 1, hk => exact jk_prob_c hQ f (by omega) (by omega) h2
    refine jw_W_n 2 (i' := 111) (ls' := [some (.inr (.inr 103)), some (.inl k), some (.inl 1), some (.inl i)]) (st' := [.inl 3, .inl i]) rfl ?_
    refine jw_W_ic rfl (by unfold jw_rg; omega) (by unfold jw_rg; omega) (fun hc1 => ?_) (fun hc1 => ?_)
    · have hc1 : i ≥ 3 := hc1
      have hkl : i = 3 := by omega
      subst hkl
      exact hQ σ H
    · have hc1 : ¬ (i ≥ 3) := hc1
      refine jw_W_n 1 (i' := 113) (ls' := [some (.inr (.inr 103)), some (.inl k), some (.inl 1), some (.inl i)]) (st' := [.inr (.inr 103)]) rfl ?_
      refine jw_W_gf rfl rfl rfl ?_
      show jw_W (js_S n) _ md_224 114 [some (.inr (.inr 103)), some (.inl k), some (.inl 1), some (.inl i)] [.inr (.inr 106)] σ _
      refine jw_W_n 2 (i' := 116) (ls' := [some (.inr (.inr 103)), some (.inl k), some (.inl 1), some (.inl i)]) (st' := [.inr (.inr 103), .inl i, .inr (.inr 106)]) rfl ?_
      refine jw_W_gf rfl rfl rfl ?_
      show jw_W (js_S n) _ md_224 117 [some (.inr (.inr 103)), some (.inl k), some (.inl 1), some (.inl i)] [.inr (.inr 123), .inl i, .inr (.inr 106)] σ _
      refine jw_W_n 1 (i' := 118) (ls' := [some (.inr (.inr 103)), some (.inl k), some (.inl 1), some (.inl i)]) (st' := [.inl i, .inr (.inr 123), .inl i, .inr (.inr 106)]) rfl ?_
      refine jw_W_ia rfl rfl (by omega) (by omega) (by omega) ?_
      show jw_W (js_S n) _ md_224 119 [some (.inr (.inr 103)), some (.inl k), some (.inl 1), some (.inl i)] [.inl (σ 123 i), .inl i, .inr (.inr 106)] σ _
      refine jw_W_is rfl (by omega) rfl (by omega) (by omega) (by omega) ?_
      refine jw_W_n 2 (i' := 109) (ls' := [some (.inr (.inr 103)), some (.inl k), some (.inl 1), some (.inl (i + 1))]) (st' := []) rfl ?_
      exact ih (by omega) (jk_cp_c H)
/-- what a problem's text that is not good changes of the reference -/
def jk_fq (σ σ' : jw_H) : Prop := (∀ c, c ≠ 103 → c ≠ 121 → c ≠ 122 → c ≠ 123 → c ≠ 124 → σ' c = σ c) ∧ (∀ j, (j < 7 ∨ 39 < j ∨ (15 < j ∧ j < 34) ∨ j = 12 ∨ j = 14) → σ' 103 j = σ 103 j) ∧ σ' 103 7 = 0
/-- the problem read, laid in the reference -/
def jk_nw (σ P σ2 : jw_H) : Prop := (∀ c, c ≠ 103 → (c < 104 ∨ 106 < c) → c ≠ 121 → c ≠ 122 → c ≠ 123 → c ≠ 124 → σ2 c = σ c) ∧ (∀ j, (j < 3 ∨ j = 6 ∨ 39 < j ∨ (15 < j ∧ j < 34) ∨ j = 12 ∨ j = 14) → σ2 103 j = σ 103 j) ∧ σ2 103 7 = 0 ∧ (σ2 103 3 = P 0 2 ∧ σ2 103 4 = P 0 3 ∧ σ2 103 5 = P 0 4) ∧ (∀ j, 0 ≤ j → j < 3 * P 0 3 → σ2 104 j = P 1 j) ∧ (∀ k, 0 ≤ k → k < P 0 4 → (∀ j, 0 ≤ j → j < 3 → σ2 105 (5 * k + j) = P 2 (3 * k + j)) ∧ σ2 105 (5 * k + 3) = P 3 k ∧ σ2 105 (5 * k + 4) = P 4 k) ∧ ∀ j, 0 ≤ j → j < 3 → σ2 106 j = P 5 j
theorem jk_nw_Pb {σ P σ2 : jw_H} (h : jk_nw σ P σ2) (hP : jk_wf P) : jm_Pb σ2 := by
  obtain ⟨-, -, -, ⟨g1, g2, g3⟩, r1, r2, r3⟩ := h
  obtain ⟨p1, p2, p3, p4, p5, p6⟩ := hP
  unfold jm_Pb
  rw [g1, g2, g3]
  refine ⟨p1, p2, p3, fun k k0 k1 => ⟨fun j j0 j1 => ?_, ?_, ?_⟩, fun j j0 j1 => ?_, fun w w0 w1 j j0 j1 => ?_⟩
  · rw [(r2 k k0 k1).1 j j0 j1]
    exact (p4 k k0 k1).1 j j0 j1
  · rw [(r2 k k0 k1).2.1]
    exact (p4 k k0 k1).2.1
  · rw [(r2 k k0 k1).2.2]
    exact (p4 k k0 k1).2.2
  · rw [r3 j j0 j1]
    exact p5 j j0 j1
  · rw [r1 _ (by omega) (by omega)]
    exact p6 w w0 w1 j j0 j1
/-- begins a text -/
def jk_bt (σ : jw_H) (k : Int) (σ' : jw_H) : Prop := (∀ c, c ≠ 103 → σ' c = σ c) ∧ (∀ j, j ≠ 8 → j ≠ 9 → j ≠ 13 → j ≠ 15 → σ' 103 j = σ 103 j) ∧ σ' 103 8 = 0 ∧ σ' 103 9 = k ∧ σ' 103 13 = 0 ∧ σ' 103 15 = 0
theorem jk_beginsT {n : Nat} {σ : jw_H} {k : Int}  : jw_T (js_S n) 1 206 [.inr (.inr 103), .inl k] σ (fun r σ' => r = none ∧ jk_bt σ k σ') := by
  refine jw_T_of (D := 0) (M := mm_206) rfl (Nat.le_of_ble_eq_true rfl) (ls0 := [some (.inr (.inr 103)), some (.inl k)]) rfl ?_ (by rintro _ _ ⟨rfl, -⟩; rfl)
  refine jw_W_n 2 (i' := 2) (ls' := [some (.inr (.inr 103)), some (.inl k)]) (st' := [.inl 0, .inr (.inr 103)]) rfl ?_
  refine jw_W_pf (a := 0) rfl (by omega) rfl rfl rfl rfl rfl ?_
  refine jw_W_n 2 (i' := 5) (ls' := [some (.inr (.inr 103)), some (.inl k)]) (st' := [.inl k, .inr (.inr 103)]) rfl ?_
  refine jw_W_pf (a := k) rfl (by omega) rfl rfl rfl rfl rfl ?_
  refine jw_W_n 2 (i' := 8) (ls' := [some (.inr (.inr 103)), some (.inl k)]) (st' := [.inl 0, .inr (.inr 103)]) rfl ?_
  refine jw_W_pf (a := 0) rfl (by omega) rfl rfl rfl rfl rfl ?_
  refine jw_W_n 2 (i' := 11) (ls' := [some (.inr (.inr 103)), some (.inl k)]) (st' := [.inl 0, .inr (.inr 103)]) rfl ?_
  refine jw_W_pf (a := 0) rfl (by omega) rfl rfl rfl rfl rfl ?_
  refine jw_W_re rfl ?_
  refine ⟨rfl, fun c hc => ?_, fun j d1 d2 d3 d4 => ?_, ?_, ?_, ?_, ?_⟩
  · rw [jw_up_out _ _ _ hc, jw_up_out _ _ _ hc, jw_up_out _ _ _ hc, jw_up_out _ _ _ hc]
  · rw [jw_up_ne _ (by omega), jw_up_ne _ (by omega), jw_up_ne _ (by omega), jw_up_ne _ (by omega)]
  · rw [jw_up_ne _ (by omega), jw_up_ne _ (by omega), jw_up_ne _ (by omega)]
    exact jw_up_eq _ _ _ _
  · rw [jw_up_ne _ (by omega), jw_up_ne _ (by omega)]
    exact jw_up_eq _ _ _ _
  · rw [jw_up_ne _ (by omega)]
    exact jw_up_eq _ _ _ _
  · exact jw_up_eq _ _ _ _
/-- kept while reading -/
def jk_kq (σ τ : jw_H) : Prop := (∀ c, c ≠ 103 → c ≠ 121 → c ≠ 122 → c ≠ 123 → c ≠ 124 → τ c = σ c) ∧ ∀ j, (j < 8 ∨ 39 < j ∨ (15 < j ∧ j < 34) ∨ j = 12 ∨ j = 14) → τ 103 j = σ 103 j
theorem jk_kq_of {σ σ1 σ2 τ : jw_H} (c2 : ∀ c, c ≠ 103 → c ≠ 123 → σ2 c = σ c) (j2 : ∀ j, j ≠ 35 → j ≠ 36 → j ≠ 37 → σ2 103 j = σ1 103 j) (b2 : ∀ j, j ≠ 8 → j ≠ 9 → j ≠ 13 → j ≠ 15 → σ1 103 j = σ 103 j) (h : jk_fm σ2 τ) : jk_kq σ τ := ⟨fun c d1 d2 d3 d4 d5 => (h.1 c d1 d2 d3 d4 d5).trans (c2 c d1 d4), fun j hj => (h.2 j (by omega) (by omega) (by omega) (by omega) (by omega) (by omega) (by omega) (by omega) (by omega)).trans ((j2 j (by omega) (by omega) (by omega)).trans (b2 j (by omega) (by omega) (by omega) (by omega)))⟩
theorem jk_fq_of {σ τ : jw_H} (h : jk_kq σ τ) : jk_fq σ (jw_up τ 103 7 0) := ⟨fun c d1 d2 d3 d4 d5 => by rw [jw_up_out _ _ _ d1]; exact h.1 c d1 d2 d3 d4 d5, fun j hj => by rw [jw_up_ne _ (by omega)]; exact h.2 j (by omega), jw_up_eq _ _ _ _⟩
theorem jk_nw_of {b : Int → Int} {m : Int} {σ τ P σc : jw_H} (hko : jk_kq σ τ) (hl : jk_ml τ P) (hx : jk_mx b m τ) (h : jk_cp (jw_up (jw_up (jw_up (jw_up τ 103 7 0) 103 3 (τ 103 34)) 103 4 (τ 103 35)) 103 5 (τ 103 36)) σc 9 20 3) : jk_nw σ P σc := by
  obtain ⟨h1, r1, r2, r3⟩ := h
  obtain ⟨l0, l8, l34, l35, l36, l37, lW, lK, lB⟩ := hl
  obtain ⟨ht, em, h8, h34, h35, h36, h37⟩ := hx
  rw [jw_up_out _ _ _ (by omega), jw_up_out _ _ _ (by omega), jw_up_out _ _ _ (by omega), jw_up_out _ _ _ (by omega)] at r1 r2 r3
  have e103 := h1 103 (by omega)
  refine ⟨fun c d1 d2 d3 d4 d5 d6 => ?_, fun j hj => ?_, ?_, ⟨?_, ?_, ?_⟩, fun j j0 j1 => ?_, fun k k0 k1 => ⟨fun j j0 j1 => ?_, ?_, ?_⟩, fun j j0 j1 => ?_⟩
  · rw [h1 c d2, jw_up_out _ _ _ d1, jw_up_out _ _ _ d1, jw_up_out _ _ _ d1, jw_up_out _ _ _ d1]
    exact hko.1 c d1 d3 d4 d5 d6
  · rw [e103, jw_up_ne _ (by omega), jw_up_ne _ (by omega), jw_up_ne _ (by omega), jw_up_ne _ (by omega)]
    exact hko.2 j (by omega)
  · rw [e103, jw_up_ne _ (by omega), jw_up_ne _ (by omega), jw_up_ne _ (by omega), jw_up_eq]
  · rw [e103, jw_up_ne _ (by omega), jw_up_ne _ (by omega), jw_up_eq, l34]
  · rw [e103, jw_up_ne _ (by omega), jw_up_eq, l35]
  · rw [e103, jw_up_eq, l36]
  · rw [r1 j j0 (by omega)]
    exact lW j j0 j1
  · rw [r2 _ (by omega) (by omega)]
    exact (lK k k0 k1).1 j j0 j1
  · rw [r2 _ (by omega) (by omega)]
    exact (lK k k0 k1).2.1
  · rw [r2 _ (by omega) (by omega)]
    exact (lK k k0 k1).2.2
  · rw [r3 j j0 j1]
    exact lB j j0 j1
theorem jk_problemR {n : Nat} {σ : jw_H} {b : Int → Int} {k : Int} (hk : jw_rg k) (h7 : 0 ≤ σ 103 7 ∧ σ 103 7 ≤ 260) (hb : ∀ j, 0 ≤ j → j < σ 103 7 → jw_and (σ 107 j) 255 = b j ∧ (-128 ≤ σ 107 j ∧ σ 107 j ≤ 127) ∧ 0 ≤ b j ∧ b j ≤ 255) (hN : jm_Ns σ)  : jw_T (js_S n) 9 224 [.inr (.inr 103), .inl k] σ (fun r σ' => (¬ (1 ≤ k ∧ k ≤ 200 ∧ k ≤ σ 103 7) ∧ r = some (.inl (-1)) ∧ σ' = σ) ∨ ((1 ≤ k ∧ k ≤ 200 ∧ k ≤ σ 103 7) ∧ jk_ptx b k 0 0 ≠ 0 ∧ r = some (.inl (jk_ptx b k 0 0)) ∧ jk_fq σ σ') ∨ ((1 ≤ k ∧ k ≤ 200 ∧ k ≤ σ 103 7) ∧ jk_ptx b k 0 0 = 0 ∧ r = some (.inl (σ' 103 56)) ∧ ∃ σ2, jk_nw σ (jk_ptx b k) σ2 ∧ jn_kf σ2 σ' ∧ ∃ C, jm_KN σ' C)) := by
  refine jw_T_of (D := 8) (M := mm_224) rfl (Nat.le_of_ble_eq_true rfl) (ls0 := [some (.inr (.inr 103)), some (.inl k), none, none]) rfl ?_ (by rintro _ _ (⟨-, rfl, -⟩ | ⟨-, -, rfl, -⟩ | ⟨-, -, rfl, -⟩) <;> rfl)
  have rk := hk
  unfold jw_rg at rk
  refine jw_W_n 3 (i' := 3) (ls' := [some (.inr (.inr 103)), some (.inl k), none, none]) (st' := [.inl 200, .inl 1, .inl k]) rfl ?_
  refine jw_W_call (as := [.inl k, .inl 1, .inl 200]) (rest := []) rfl rfl rfl rfl (Nat.le_of_ble_eq_true rfl) (.inl rfl) (jm_in (by unfold jw_rg; omega) (by unfold jw_rg; omega) (by unfold jw_rg; omega)) (by omega) ?_ rfl
  rintro r1 σz (⟨rfl, hs, hin⟩ | ⟨rfl, hs, hin⟩)
  · rw [hs]
    show jw_W (js_S n) _ md_224 4 [some (.inr (.inr 103)), some (.inl k), none, none] [.inl 1] σ _
    refine jw_W_if rfl (by unfold jw_rg; omega) (fun hc1 => ?_) (fun hc1 => ?_)
    · exact absurd hc1 (show ¬ ((1 : Int) = 0) by omega)
    · clear hc1
      refine jw_W_n 2 (i' := 7) (ls' := [some (.inr (.inr 103)), some (.inl k), none, none]) (st' := [.inr (.inr 103), .inl k]) rfl ?_
      refine jw_W_gf rfl rfl rfl ?_
      show jw_W (js_S n) _ md_224 8 [some (.inr (.inr 103)), some (.inl k), none, none] [.inl (σ 103 7), .inl k] σ _
      refine jw_W_ic rfl (by unfold jw_rg; omega) (by unfold jw_rg; omega) (fun hc2 => ?_) (fun hc2 => ?_)
      · have hc2 : k ≤ (σ 103 7) := hc2
        refine jw_W_n 2 (i' := 13) (ls' := [some (.inr (.inr 103)), some (.inl k), none, none]) (st' := [.inl k, .inr (.inr 103)]) rfl ?_
        refine jw_W_call (as := [.inr (.inr 103), .inl k]) (rest := []) rfl rfl rfl rfl (Nat.le_of_ble_eq_true rfl) (.inr rfl) jk_beginsT (by omega) ?_ rfl
        rintro r1 σ1 ⟨rfl, hbt⟩
        rename jw_H => σ1
        show jw_W (js_S n) _ md_224 14 [some (.inr (.inr 103)), some (.inl k), none, none] [] σ1 _
        refine jw_W_n 2 (i' := 16) (ls' := [some (.inr (.inr 103)), some (.inl k), none, none]) (st' := [.inl 0, .inr (.inr 103)]) rfl ?_
        refine jw_W_pf (a := 0) rfl (by omega) rfl rfl rfl rfl rfl ?_
        refine jw_W_n 2 (i' := 19) (ls' := [some (.inr (.inr 103)), some (.inl k), none, none]) (st' := [.inl 0, .inr (.inr 103)]) rfl ?_
        refine jw_W_pf (a := 0) rfl (by omega) rfl rfl rfl rfl rfl ?_
        refine jw_W_n 2 (i' := 22) (ls' := [some (.inr (.inr 103)), some (.inl k), none, none]) (st' := [.inl 0, .inr (.inr 103)]) rfl ?_
        refine jw_W_pf (a := 0) rfl (by omega) rfl rfl rfl rfl rfl ?_
        refine jw_W_n 4 (i' := 27) (ls' := [some (.inr (.inr 103)), some (.inl k), some (.inl 0), none]) (st' := [.inl 3, .inl 0]) rfl ?_
        refine jw_W_ic rfl (by unfold jw_rg; omega) (by unfold jw_rg; omega) (fun hc3 => ?_) (fun hc3 => ?_)
        · exact absurd hc3 (show ¬ ((0 : Int) ≥ 3) by omega)
        · clear hc3
          refine jw_W_n 1 (i' := 29) (ls' := [some (.inr (.inr 103)), some (.inl k), some (.inl 0), none]) (st' := [.inr (.inr 103)]) rfl ?_
          refine jw_W_gf rfl rfl rfl ?_
          show jw_W (js_S n) _ md_224 30 [some (.inr (.inr 103)), some (.inl k), some (.inl 0), none] [.inr (.inr 123)] ((jw_up (jw_up (jw_up σ1 103 35 0) 103 36 0) 103 37 0)) _
          refine jw_W_n 2 (i' := 32) (ls' := [some (.inr (.inr 103)), some (.inl k), some (.inl 0), none]) (st' := [.inl 9, .inl 0, .inr (.inr 123)]) rfl ?_
          refine jw_W_is rfl (by omega) rfl (by omega) (by omega) (by omega) ?_
          refine jw_W_n 4 (i' := 27) (ls' := [some (.inr (.inr 103)), some (.inl k), some (.inl 1), none]) (st' := [.inl 3, .inl 1]) rfl ?_
          refine jw_W_ic rfl (by unfold jw_rg; omega) (by unfold jw_rg; omega) (fun hc4 => ?_) (fun hc4 => ?_)
          · exact absurd hc4 (show ¬ ((1 : Int) ≥ 3) by omega)
          · clear hc4
            refine jw_W_n 1 (i' := 29) (ls' := [some (.inr (.inr 103)), some (.inl k), some (.inl 1), none]) (st' := [.inr (.inr 103)]) rfl ?_
            refine jw_W_gf rfl rfl rfl ?_
            show jw_W (js_S n) _ md_224 30 [some (.inr (.inr 103)), some (.inl k), some (.inl 1), none] [.inr (.inr 123)] ((jw_up (jw_up (jw_up (jw_up σ1 103 35 0) 103 36 0) 103 37 0) 123 0 9)) _
            refine jw_W_n 2 (i' := 32) (ls' := [some (.inr (.inr 103)), some (.inl k), some (.inl 1), none]) (st' := [.inl 9, .inl 1, .inr (.inr 123)]) rfl ?_
            refine jw_W_is rfl (by omega) rfl (by omega) (by omega) (by omega) ?_
            refine jw_W_n 4 (i' := 27) (ls' := [some (.inr (.inr 103)), some (.inl k), some (.inl 2), none]) (st' := [.inl 3, .inl 2]) rfl ?_
            refine jw_W_ic rfl (by unfold jw_rg; omega) (by unfold jw_rg; omega) (fun hc5 => ?_) (fun hc5 => ?_)
            · exact absurd hc5 (show ¬ ((2 : Int) ≥ 3) by omega)
            · clear hc5
              refine jw_W_n 1 (i' := 29) (ls' := [some (.inr (.inr 103)), some (.inl k), some (.inl 2), none]) (st' := [.inr (.inr 103)]) rfl ?_
              refine jw_W_gf rfl rfl rfl ?_
              show jw_W (js_S n) _ md_224 30 [some (.inr (.inr 103)), some (.inl k), some (.inl 2), none] [.inr (.inr 123)] ((jw_up (jw_up (jw_up (jw_up (jw_up σ1 103 35 0) 103 36 0) 103 37 0) 123 0 9) 123 1 9)) _
              refine jw_W_n 2 (i' := 32) (ls' := [some (.inr (.inr 103)), some (.inl k), some (.inl 2), none]) (st' := [.inl 9, .inl 2, .inr (.inr 123)]) rfl ?_
              refine jw_W_is rfl (by omega) rfl (by omega) (by omega) (by omega) ?_
              refine jw_W_n 4 (i' := 27) (ls' := [some (.inr (.inr 103)), some (.inl k), some (.inl 3), none]) (st' := [.inl 3, .inl 3]) rfl ?_
              refine jw_W_ic rfl (by unfold jw_rg; omega) (by unfold jw_rg; omega) (fun hc6 => ?_) (fun hc6 => ?_)
              · clear hc6
                obtain ⟨σ2, hs2⟩ : ∃ τ : jw_H, τ = jw_up (jw_up (jw_up (jw_up (jw_up (jw_up σ1 103 35 0) 103 36 0) 103 37 0) 123 0 9) 123 1 9) 123 2 9 := ⟨_, rfl⟩
                show jw_W (js_S n) _ _ _ _ _ (jw_up (jw_up (jw_up (jw_up (jw_up (jw_up σ1 103 35 0) 103 36 0) 103 37 0) 123 0 9) 123 1 9) 123 2 9) _
                rw [← hs2]
                obtain ⟨b1, b2, b3, b4, b5, b6⟩ := hbt
                have c2 : ∀ c, c ≠ 103 → c ≠ 123 → σ2 c = σ c := fun c d1 d2 => by rw [hs2, jw_up_out _ _ _ d2, jw_up_out _ _ _ d2, jw_up_out _ _ _ d2, jw_up_out _ _ _ d1, jw_up_out _ _ _ d1, jw_up_out _ _ _ d1]; exact b1 c d1
                have j2 : ∀ j, j ≠ 35 → j ≠ 36 → j ≠ 37 → σ2 103 j = σ1 103 j := fun j d1 d2 d3 => by rw [hs2, jw_up_out _ _ _ (by omega), jw_up_out _ _ _ (by omega), jw_up_out _ _ _ (by omega), jw_up_ne _ (by omega), jw_up_ne _ (by omega), jw_up_ne _ (by omega)]
                have q35 : σ2 103 35 = 0 := by rw [hs2, jw_up_out _ _ _ (by omega), jw_up_out _ _ _ (by omega), jw_up_out _ _ _ (by omega), jw_up_ne _ (by omega), jw_up_ne _ (by omega)]; exact jw_up_eq _ _ _ _
                have q36 : σ2 103 36 = 0 := by rw [hs2, jw_up_out _ _ _ (by omega), jw_up_out _ _ _ (by omega), jw_up_out _ _ _ (by omega), jw_up_ne _ (by omega)]; exact jw_up_eq _ _ _ _
                have q37 : σ2 103 37 = 0 := by rw [hs2, jw_up_out _ _ _ (by omega), jw_up_out _ _ _ (by omega), jw_up_out _ _ _ (by omega)]; exact jw_up_eq _ _ _ _
                have qB : ∀ j, 0 ≤ j → j < 3 → σ2 123 j = 9 := by
                  intro j j0 j1
                  rw [hs2]
                  rcases (show j = 0 ∨ j = 1 ∨ j = 2 by omega) with rfl | rfl | rfl
                  · rw [jw_up_ne _ (by omega), jw_up_ne _ (by omega)]
                    exact jw_up_eq _ _ _ _
                  · rw [jw_up_ne _ (by omega)]
                    exact jw_up_eq _ _ _ _
                  · exact jw_up_eq _ _ _ _
                have q8 : σ2 103 8 = 0 := (j2 8 (by omega) (by omega) (by omega)).trans b3
                have q9 : σ2 103 9 = k := (j2 9 (by omega) (by omega) (by omega)).trans b4
                have ht2 : jk_tr σ2 b := ⟨by omega, by omega, fun j j0 j1 => by rw [c2 107 (by omega) (by omega)]; exact hb j j0 (by omega)⟩
                have hml : jk_ml σ2 (jk_s1 (σ2 103 34)) := ⟨rfl, q8, rfl, q35, q36, q37, fun j j0 j1 => absurd (show j < 3 * 0 from j1) (by omega), fun j j0 j1 => absurd (show j < 0 from j1) (by omega), fun j j0 j1 => qB j j0 j1⟩
                have hmy : jk_my b k σ2 1 := ⟨ht2, q9, by omega, by omega, by omega, by omega, by omega⟩
                refine jw_W_n 1 (i' := 36) (ls' := [some (.inr (.inr 103)), some (.inl k), some (.inl 3), none]) (st' := [.inr (.inr 103)]) rfl ?_
                refine jw_W_call (as := [.inr (.inr 103)]) (rest := []) rfl rfl rfl rfl (Nat.le_of_ble_eq_true rfl) (.inr rfl) (jk_mp_or (jk_readsOf hmy hml rfl rfl)) (by omega) ?_ rfl
                rintro r1 σ3 (⟨rfl, hP1⟩ | ⟨rfl, hP1⟩)
                · rename jw_H => σ3
                  rw [show jk_s1 (σ2 103 34) 0 1 = 0 from rfl, jk_pl_s1 (by omega)] at hP1
                  show jw_W (js_S n) _ md_224 37 [some (.inr (.inr 103)), some (.inl k), some (.inl 3), none] [.inl 0] σ3 _
                  refine jw_W_n 1 (i' := 38) (ls' := [some (.inr (.inr 103)), some (.inl k), some (.inl 0), none]) (st' := []) rfl ?_
                  refine jk_probR_loop (by omega) (P := jk_ptx b k) (fun τ g hmp => ?_) 300 hP1 (fun hz => by have := jk_pl_gt (by omega) (by omega) hz; omega) rfl
                  have hfq : jk_fm σ2 τ := hmp.1
                  have hko : jk_kq σ τ := jk_kq_of c2 j2 b2 hfq
                  obtain ⟨-, ⟨hg, hs, h10⟩ | ⟨hg, hl, hx⟩⟩ := hmp
                  · cases hg
                    refine jw_W_n 2 (i' := 59) (ls' := [some (.inr (.inr 103)), some (.inl k), some (.inl 0), none]) (st' := [.inl 0, .inr (.inr 103)]) rfl ?_
                    refine jw_W_pf (a := 0) rfl (by omega) rfl rfl rfl rfl rfl ?_
                    refine jw_W_n 1 (i' := 61) (ls' := [some (.inr (.inr 103)), some (.inl k), some (.inl 0), none]) (st' := [.inl 0]) rfl ?_
                    refine jw_W_if rfl (by unfold jw_rg; omega) (fun hc1 => ?_) (fun hc1 => ?_)
                    · exact absurd hc1 (show ¬ ((0 : Int) ≠ 0) by omega)
                    · clear hc1
                      refine jw_W_n 1 (i' := 63) (ls' := [some (.inr (.inr 103)), some (.inl k), some (.inl 0), none]) (st' := [.inr (.inr 103)]) rfl ?_
                      refine jw_W_gf rfl rfl rfl ?_
                      show jw_W (js_S n) _ md_224 64 [some (.inr (.inr 103)), some (.inl k), some (.inl 0), none] [.inl (τ 103 10)] ((jw_up τ 103 7 0)) _
                      refine jw_W_ir rfl ?_
                      exact .inr (.inl ⟨by omega, hs, by rw [h10], jk_fq_of hko⟩)
                  · cases hg
                    refine jw_W_n 2 (i' := 59) (ls' := [some (.inr (.inr 103)), some (.inl k), some (.inl 1), none]) (st' := [.inl 0, .inr (.inr 103)]) rfl ?_
                    refine jw_W_pf (a := 0) rfl (by omega) rfl rfl rfl rfl rfl ?_
                    refine jw_W_n 1 (i' := 61) (ls' := [some (.inr (.inr 103)), some (.inl k), some (.inl 1), none]) (st' := [.inl 1]) rfl ?_
                    refine jw_W_if rfl (by unfold jw_rg; omega) (fun hc1 => ?_) (fun hc1 => ?_)
                    · clear hc1
                      refine jw_W_n 2 (i' := 67) (ls' := [some (.inr (.inr 103)), some (.inl k), some (.inl 1), none]) (st' := [.inr (.inr 103), .inr (.inr 103)]) rfl ?_
                      refine jw_W_gf rfl rfl rfl ?_
                      show jw_W (js_S n) _ md_224 68 [some (.inr (.inr 103)), some (.inl k), some (.inl 1), none] [.inl (τ 103 34), .inr (.inr 103)] ((jw_up τ 103 7 0)) _
                      refine jw_W_pf (a := τ 103 34) rfl (by omega) rfl rfl rfl rfl rfl ?_
                      refine jw_W_n 2 (i' := 71) (ls' := [some (.inr (.inr 103)), some (.inl k), some (.inl 1), none]) (st' := [.inr (.inr 103), .inr (.inr 103)]) rfl ?_
                      refine jw_W_gf rfl rfl rfl ?_
                      show jw_W (js_S n) _ md_224 72 [some (.inr (.inr 103)), some (.inl k), some (.inl 1), none] [.inl (τ 103 35), .inr (.inr 103)] ((jw_up (jw_up τ 103 7 0) 103 3 (τ 103 34))) _
                      refine jw_W_pf (a := τ 103 35) rfl (by omega) rfl rfl rfl rfl rfl ?_
                      refine jw_W_n 2 (i' := 75) (ls' := [some (.inr (.inr 103)), some (.inl k), some (.inl 1), none]) (st' := [.inr (.inr 103), .inr (.inr 103)]) rfl ?_
                      refine jw_W_gf rfl rfl rfl ?_
                      show jw_W (js_S n) _ md_224 76 [some (.inr (.inr 103)), some (.inl k), some (.inl 1), none] [.inl (τ 103 36), .inr (.inr 103)] ((jw_up (jw_up (jw_up τ 103 7 0) 103 3 (τ 103 34)) 103 4 (τ 103 35))) _
                      refine jw_W_pf (a := τ 103 36) rfl (by omega) rfl rfl rfl rfl rfl ?_
                      refine jw_W_n 2 (i' := 79) (ls' := [some (.inr (.inr 103)), some (.inl k), some (.inl 1), some (.inl 0)]) (st' := []) rfl ?_
                      refine jk_prob_a (fun σa Ha => ?_) 9 (i := 0) (by omega) (by omega) (σ0 := (jw_up (jw_up (jw_up (jw_up τ 103 7 0) 103 3 (τ 103 34)) 103 4 (τ 103 35)) 103 5 (τ 103 36))) ⟨fun o o1 => rfl, fun j j0 j1 => by omega, fun j j0 j1 => by omega, fun j j0 j1 => by omega⟩
                      refine jw_W_n 2 (i' := 94) (ls' := [some (.inr (.inr 103)), some (.inl k), some (.inl 1), some (.inl 0)]) (st' := []) rfl ?_
                      refine jk_prob_b (fun σb Hb => ?_) 20 (i := 0) (by omega) (by omega) Ha
                      refine jw_W_n 2 (i' := 109) (ls' := [some (.inr (.inr 103)), some (.inl k), some (.inl 1), some (.inl 0)]) (st' := []) rfl ?_
                      refine jk_prob_c (fun σc Hc => ?_) 3 (i := 0) (by omega) (by omega) Hb
                      have hnw : jk_nw σ (jk_ptx b k) σc := jk_nw_of hko hl hx Hc
                      have hwf := jk_wf_ptx (b := b) (m := k) (by omega) hl.1
                      have hPu := jk_nw_Pb hnw hwf
                      have hNu : jm_Ns σc := by unfold jm_Ns; rw [hnw.1 131 (by omega) (by omega) (by omega) (by omega) (by omega) (by omega)]; exact hN
                      refine jw_W_n 1 (i' := 123) (ls' := [some (.inr (.inr 103)), some (.inl k), some (.inl 1), some (.inl 3)]) (st' := [.inr (.inr 103)]) rfl ?_
                      refine jw_W_call (as := [.inr (.inr 103)]) (rest := []) rfl rfl rfl rfl (Nat.le_of_ble_eq_true rfl) (.inr rfl) (jn_knows hPu hNu) (by omega) ?_ rfl
                      rintro r1 σ9 ⟨rfl, hkf, C, hKN⟩
                      show jw_W (js_S n) _ md_224 124 [some (.inr (.inr 103)), some (.inl k), some (.inl 1), some (.inl 3)] [] σ9 _
                      refine jw_W_n 1 (i' := 125) (ls' := [some (.inr (.inr 103)), some (.inl k), some (.inl 1), some (.inl 3)]) (st' := [.inr (.inr 103)]) rfl ?_
                      refine jw_W_gf rfl rfl rfl ?_
                      show jw_W (js_S n) _ md_224 126 [some (.inr (.inr 103)), some (.inl k), some (.inl 1), some (.inl 3)] [.inl (σ9 103 56)] σ9 _
                      refine jw_W_ir rfl ?_
                      exact .inr (.inr ⟨by omega, hl.1, rfl, σc, hnw, hkf, C, hKN⟩)
                    · exact absurd hc1 (show ¬ ¬ ((1 : Int) ≠ 0) by omega)
                · rename jw_H => σ3
                  rw [show jk_s1 (σ2 103 34) 0 1 = 0 from rfl, jk_pl_s1 (by omega)] at hP1
                  show jw_W (js_S n) _ md_224 37 [some (.inr (.inr 103)), some (.inl k), some (.inl 3), none] [.inl 1] σ3 _
                  refine jw_W_n 1 (i' := 38) (ls' := [some (.inr (.inr 103)), some (.inl k), some (.inl 1), none]) (st' := []) rfl ?_
                  refine jk_probR_loop (by omega) (P := jk_ptx b k) (fun τ g hmp => ?_) 300 hP1 (fun hz => by have := jk_pl_gt (by omega) (by omega) hz; omega) rfl
                  have hfq : jk_fm σ2 τ := hmp.1
                  have hko : jk_kq σ τ := jk_kq_of c2 j2 b2 hfq
                  obtain ⟨-, ⟨hg, hs, h10⟩ | ⟨hg, hl, hx⟩⟩ := hmp
                  · cases hg
                    refine jw_W_n 2 (i' := 59) (ls' := [some (.inr (.inr 103)), some (.inl k), some (.inl 0), none]) (st' := [.inl 0, .inr (.inr 103)]) rfl ?_
                    refine jw_W_pf (a := 0) rfl (by omega) rfl rfl rfl rfl rfl ?_
                    refine jw_W_n 1 (i' := 61) (ls' := [some (.inr (.inr 103)), some (.inl k), some (.inl 0), none]) (st' := [.inl 0]) rfl ?_
                    refine jw_W_if rfl (by unfold jw_rg; omega) (fun hc1 => ?_) (fun hc1 => ?_)
                    · exact absurd hc1 (show ¬ ((0 : Int) ≠ 0) by omega)
                    · clear hc1
                      refine jw_W_n 1 (i' := 63) (ls' := [some (.inr (.inr 103)), some (.inl k), some (.inl 0), none]) (st' := [.inr (.inr 103)]) rfl ?_
                      refine jw_W_gf rfl rfl rfl ?_
                      show jw_W (js_S n) _ md_224 64 [some (.inr (.inr 103)), some (.inl k), some (.inl 0), none] [.inl (τ 103 10)] ((jw_up τ 103 7 0)) _
                      refine jw_W_ir rfl ?_
                      exact .inr (.inl ⟨by omega, hs, by rw [h10], jk_fq_of hko⟩)
                  · cases hg
                    refine jw_W_n 2 (i' := 59) (ls' := [some (.inr (.inr 103)), some (.inl k), some (.inl 1), none]) (st' := [.inl 0, .inr (.inr 103)]) rfl ?_
                    refine jw_W_pf (a := 0) rfl (by omega) rfl rfl rfl rfl rfl ?_
                    refine jw_W_n 1 (i' := 61) (ls' := [some (.inr (.inr 103)), some (.inl k), some (.inl 1), none]) (st' := [.inl 1]) rfl ?_
                    refine jw_W_if rfl (by unfold jw_rg; omega) (fun hc1 => ?_) (fun hc1 => ?_)
                    · clear hc1
                      refine jw_W_n 2 (i' := 67) (ls' := [some (.inr (.inr 103)), some (.inl k), some (.inl 1), none]) (st' := [.inr (.inr 103), .inr (.inr 103)]) rfl ?_
                      refine jw_W_gf rfl rfl rfl ?_
                      show jw_W (js_S n) _ md_224 68 [some (.inr (.inr 103)), some (.inl k), some (.inl 1), none] [.inl (τ 103 34), .inr (.inr 103)] ((jw_up τ 103 7 0)) _
                      refine jw_W_pf (a := τ 103 34) rfl (by omega) rfl rfl rfl rfl rfl ?_
                      refine jw_W_n 2 (i' := 71) (ls' := [some (.inr (.inr 103)), some (.inl k), some (.inl 1), none]) (st' := [.inr (.inr 103), .inr (.inr 103)]) rfl ?_
                      refine jw_W_gf rfl rfl rfl ?_
                      show jw_W (js_S n) _ md_224 72 [some (.inr (.inr 103)), some (.inl k), some (.inl 1), none] [.inl (τ 103 35), .inr (.inr 103)] ((jw_up (jw_up τ 103 7 0) 103 3 (τ 103 34))) _
                      refine jw_W_pf (a := τ 103 35) rfl (by omega) rfl rfl rfl rfl rfl ?_
                      refine jw_W_n 2 (i' := 75) (ls' := [some (.inr (.inr 103)), some (.inl k), some (.inl 1), none]) (st' := [.inr (.inr 103), .inr (.inr 103)]) rfl ?_
                      refine jw_W_gf rfl rfl rfl ?_
                      show jw_W (js_S n) _ md_224 76 [some (.inr (.inr 103)), some (.inl k), some (.inl 1), none] [.inl (τ 103 36), .inr (.inr 103)] ((jw_up (jw_up (jw_up τ 103 7 0) 103 3 (τ 103 34)) 103 4 (τ 103 35))) _
                      refine jw_W_pf (a := τ 103 36) rfl (by omega) rfl rfl rfl rfl rfl ?_
                      refine jw_W_n 2 (i' := 79) (ls' := [some (.inr (.inr 103)), some (.inl k), some (.inl 1), some (.inl 0)]) (st' := []) rfl ?_
                      refine jk_prob_a (fun σa Ha => ?_) 9 (i := 0) (by omega) (by omega) (σ0 := (jw_up (jw_up (jw_up (jw_up τ 103 7 0) 103 3 (τ 103 34)) 103 4 (τ 103 35)) 103 5 (τ 103 36))) ⟨fun o o1 => rfl, fun j j0 j1 => by omega, fun j j0 j1 => by omega, fun j j0 j1 => by omega⟩
                      refine jw_W_n 2 (i' := 94) (ls' := [some (.inr (.inr 103)), some (.inl k), some (.inl 1), some (.inl 0)]) (st' := []) rfl ?_
                      refine jk_prob_b (fun σb Hb => ?_) 20 (i := 0) (by omega) (by omega) Ha
                      refine jw_W_n 2 (i' := 109) (ls' := [some (.inr (.inr 103)), some (.inl k), some (.inl 1), some (.inl 0)]) (st' := []) rfl ?_
                      refine jk_prob_c (fun σc Hc => ?_) 3 (i := 0) (by omega) (by omega) Hb
                      have hnw : jk_nw σ (jk_ptx b k) σc := jk_nw_of hko hl hx Hc
                      have hwf := jk_wf_ptx (b := b) (m := k) (by omega) hl.1
                      have hPu := jk_nw_Pb hnw hwf
                      have hNu : jm_Ns σc := by unfold jm_Ns; rw [hnw.1 131 (by omega) (by omega) (by omega) (by omega) (by omega) (by omega)]; exact hN
                      refine jw_W_n 1 (i' := 123) (ls' := [some (.inr (.inr 103)), some (.inl k), some (.inl 1), some (.inl 3)]) (st' := [.inr (.inr 103)]) rfl ?_
                      refine jw_W_call (as := [.inr (.inr 103)]) (rest := []) rfl rfl rfl rfl (Nat.le_of_ble_eq_true rfl) (.inr rfl) (jn_knows hPu hNu) (by omega) ?_ rfl
                      rintro r1 σ9 ⟨rfl, hkf, C, hKN⟩
                      show jw_W (js_S n) _ md_224 124 [some (.inr (.inr 103)), some (.inl k), some (.inl 1), some (.inl 3)] [] σ9 _
                      refine jw_W_n 1 (i' := 125) (ls' := [some (.inr (.inr 103)), some (.inl k), some (.inl 1), some (.inl 3)]) (st' := [.inr (.inr 103)]) rfl ?_
                      refine jw_W_gf rfl rfl rfl ?_
                      show jw_W (js_S n) _ md_224 126 [some (.inr (.inr 103)), some (.inl k), some (.inl 1), some (.inl 3)] [.inl (σ9 103 56)] σ9 _
                      refine jw_W_ir rfl ?_
                      exact .inr (.inr ⟨by omega, hl.1, rfl, σc, hnw, hkf, C, hKN⟩)
                    · exact absurd hc1 (show ¬ ¬ ((1 : Int) ≠ 0) by omega)
              · exact absurd hc6 (show ¬ ¬ ((3 : Int) ≥ 3) by omega)
      · have hc2 : ¬ (k ≤ (σ 103 7)) := hc2
        refine jw_W_n 1 (i' := 10) (ls' := [some (.inr (.inr 103)), some (.inl k), none, none]) (st' := [.inl ((-1))]) rfl ?_
        refine jw_W_ir rfl ?_
        exact .inl ⟨by omega, rfl, rfl⟩
  · rw [hs]
    show jw_W (js_S n) _ md_224 4 [some (.inr (.inr 103)), some (.inl k), none, none] [.inl 0] σ _
    refine jw_W_if rfl (by unfold jw_rg; omega) (fun hc7 => ?_) (fun hc7 => ?_)
    · clear hc7
      refine jw_W_n 1 (i' := 10) (ls' := [some (.inr (.inr 103)), some (.inl k), none, none]) (st' := [.inl ((-1))]) rfl ?_
      refine jw_W_ir rfl ?_
      exact .inl ⟨by omega, rfl, rfl⟩
    · exact absurd hc7 (show ¬ ¬ ((0 : Int) = 0) by omega)

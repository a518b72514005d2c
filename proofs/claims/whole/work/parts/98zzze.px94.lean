/-! ===== a sum (reference) ===== -/
theorem jk_readsTermX {n : Nat} {σ : jw_H} {b : Int → Int} (ht : jk_tr σ b) (hp9 : σ 103 8 ≤ 90000) (hq : 0 ≤ σ 103 34 ∧ σ 103 34 ≤ 3) {s : Int} (hs1 : s = 1 ∨ s = -1) {t : Int → Int} (hrow : ∀ j, 0 ≤ j → j < 3 → σ 124 j = t j ∧ -3 ≤ t j ∧ t j ≤ 3) : jw_T (js_S n) 3 216 [.inr (.inr 103), .inl s] σ (fun r σ' => (r = some (.inl 0) ∧ (jk_trm b (σ 103 9) (σ 103 34) s t (σ 103 8)).1 ≠ 0 ∧ jk_ft σ σ' ∧ σ' 103 10 = (jk_trm b (σ 103 9) (σ 103 34) s t (σ 103 8)).1) ∨ (r = some (.inl 1) ∧ (jk_trm b (σ 103 9) (σ 103 34) s t (σ 103 8)).1 = 0 ∧ jk_ft σ σ' ∧ σ' 103 8 = (jk_trm b (σ 103 9) (σ 103 34) s t (σ 103 8)).2.1 ∧ ∀ j, 0 ≤ j → j < 3 → σ' 124 j = (jk_trm b (σ 103 9) (σ 103 34) s t (σ 103 8)).2.2 j)) := by
  have hq0 := ht.1
  refine jw_T_mono (jk_readsTerm ht hp9 hq hs1 (fun j j0 j1 => by rw [(hrow j j0 j1).1]; exact (hrow j j0 j1).2)) (Nat.le_refl _) ?_
  rintro r σ' ⟨c, k, hc, ⟨hr, hl, hf, h10⟩ | ⟨hr, hl, hq7, hf, h10⟩ | ⟨hr, hl, hq7, hx, hf, h10⟩ | ⟨hr, hl, hq7, hx, hf, hv, hn, h8⟩⟩
  · have hT := jk_trm_1 (q := σ 103 34) (s := s) (t := t) hc hl
    have hk : k = 0 ∨ k = 1 := by rcases hc with ⟨-, -, e⟩ | ⟨-, -, e⟩ <;> omega
    exact .inl ⟨hr, by omega, hf, by omega⟩
  · have hT := jk_trm_7 (s := s) (t := t) hc hl (show ¬ (jk_h b (σ 103 9) (σ 103 8 + k) - 120 < σ 103 34) by omega)
    have hk : k = 0 ∨ k = 1 := by rcases hc with ⟨-, -, e⟩ | ⟨-, -, e⟩ <;> omega
    exact .inl ⟨hr, by omega, hf, by omega⟩
  · have hlu := hl
    unfold jk_let at hlu
    rw [(hrow _ (by omega) (by omega)).1] at hx
    have hT := jk_trm_3 (s := s) (t := t) hc hl hq7 hx
    have hk : k = 0 ∨ k = 1 := by rcases hc with ⟨-, -, e⟩ | ⟨-, -, e⟩ <;> omega
    exact .inl ⟨hr, by omega, hf, by omega⟩
  · have hlu := hl
    unfold jk_let at hlu
    have ev := (hrow (jk_h b (σ 103 9) (σ 103 8 + k) - 120) (by omega) (by omega)).1
    rw [ev] at hx hv
    rw [jk_trm_0 (s := s) (t := t) hc hl hq7 hx]
    refine .inr ⟨hr, rfl, hf, h8, fun j j0 j1 => ?_⟩
    show _ = (if j = _ then _ else _)
    by_cases hj : j = jk_h b (σ 103 9) (σ 103 8 + k) - 120
    · rw [if_pos hj, hj]
      exact hv
    · rw [if_neg hj, hn j hj]
      exact (hrow j j0 j1).1
theorem jk_tr_ft {σ σ' : jw_H} {b : Int → Int} (h : jk_tr σ b) (hf : jk_ft σ σ') (h8 : 0 ≤ σ' 103 8 ∧ σ' 103 8 ≤ 100000) : jk_tr σ' b := by
  obtain ⟨h1, h2, h3⟩ := h
  unfold jk_tr
  rw [hf.2 9 (by omega) (by omega) (by omega), hf.1 107 (by omega) (by omega)]
  exact ⟨h8, h2, h3⟩
theorem jk_ft_tr {σ σ' σ'' : jw_H} (h : jk_ft σ σ') (k : jk_ft σ' σ'') : jk_ft σ σ'' := ⟨fun o h1 h2 => (k.1 o h1 h2).trans (h.1 o h1 h2), fun j h1 h2 h3 => (k.2 j h1 h2 h3).trans (h.2 j h1 h2 h3)⟩
theorem jk_sumR_loop {n : Nat} {σ : jw_H} {b : Int → Int} {m q : Int} (hm : σ 103 9 = m) (hq : σ 103 34 = q) (hq3 : 0 ≤ q ∧ q ≤ 3) : ∀ (f : Nat) {R : Int × Int × (Int → Int)} {τ : jw_H} {x : Int}, jk_ft σ τ → jk_tr τ b → R.1 = 0 → τ 103 8 = R.2.1 → (∀ j, 0 ≤ j → j < 3 → τ 124 j = R.2.2 j) → jk_rok m 0 R → m < R.2.1 + f → jw_W (js_S n) 3 md_217 34 [some (.inr (.inr 103)), some (.inl x)] [] τ (fun r σ' => (r = some (.inl 0) ∧ (jk_sg b m q f R).1 ≠ 0 ∧ jk_ft σ σ' ∧ σ' 103 10 = (jk_sg b m q f R).1) ∨ (r = some (.inl 1) ∧ (jk_sg b m q f R).1 = 0 ∧ jk_ft σ σ' ∧ σ' 103 8 = (jk_sg b m q f R).2.1 ∧ ∀ j, 0 ≤ j → j < 3 → σ' 124 j = (jk_sg b m q f R).2.2 j))
  | f, R, τ, x, hf0, ht, hR1, e8, hrow, hok, hfu => by
    have hq0 := ht.1
    have hq1 := ht.2.1
    have em : τ 103 9 = m := by rw [hf0.2 9 (by omega) (by omega) (by omega)]; exact hm
    have eq34 : τ 103 34 = q := by rw [hf0.2 34 (by omega) (by omega) (by omega)]; exact hq
    have hok1 := (hok hR1).1
    have hhr := jk_h_rg (b := b) (n := τ 103 9) (i := τ 103 8) ht.1.1 (fun j j0 j1 => (ht.2.2 j j0 j1).2.2)
    rw [em, e8] at hhr
    have hY : jk_h b m R.2.1 ≠ -1 → R.2.1 < m := fun hh => Classical.byContradiction (fun w => hh (jk_h_out (by omega)))
    have bad : ∀ {σ' : jw_H} {s' : Int}, (∀ f, jk_sg b m q (f + 1) R = jk_sg b m q f (jk_trm b m q s' R.2.2 (R.2.1 + 1))) → (jk_trm b m q s' R.2.2 (R.2.1 + 1)).1 ≠ 0 → jk_ft σ σ' → σ' 103 10 = (jk_trm b m q s' R.2.2 (R.2.1 + 1)).1 → jk_h b m R.2.1 ≠ -1 → (jk_sg b m q f R).1 ≠ 0 ∧ jk_ft σ σ' ∧ σ' 103 10 = (jk_sg b m q f R).1 := by
      intro σ' s' hsg hT hf h10 hn
      have := hY hn
      match f, hfu with
      | 0, hfu => omega
      | f + 1, hfu =>
        rw [hsg f, jk_sg_no (fun hh => hT hh.1)]
        exact ⟨hT, hf, h10⟩
    have go : ∀ {τ' : jw_H} {s' x' : Int}, (∀ f, jk_sg b m q (f + 1) R = jk_sg b m q f (jk_trm b m q s' R.2.2 (R.2.1 + 1))) → (jk_trm b m q s' R.2.2 (R.2.1 + 1)).1 = 0 → jk_ft σ τ' → τ' 103 8 = (jk_trm b m q s' R.2.2 (R.2.1 + 1)).2.1 → (∀ j, 0 ≤ j → j < 3 → τ' 124 j = (jk_trm b m q s' R.2.2 (R.2.1 + 1)).2.2 j) → jk_h b m R.2.1 ≠ -1 → jw_W (js_S n) 3 md_217 34 [some (.inr (.inr 103)), some (.inl x')] [] τ' (fun r σ' => (r = some (.inl 0) ∧ (jk_sg b m q f R).1 ≠ 0 ∧ jk_ft σ σ' ∧ σ' 103 10 = (jk_sg b m q f R).1) ∨ (r = some (.inl 1) ∧ (jk_sg b m q f R).1 = 0 ∧ jk_ft σ σ' ∧ σ' 103 8 = (jk_sg b m q f R).2.1 ∧ ∀ j, 0 ≤ j → j < 3 → σ' 124 j = (jk_sg b m q f R).2.2 j)) := by
      intro τ' s' x' hsg hT hf h8 hr hn
      have hlt := hY hn
      match f, hfu with
      | 0, hfu => omega
      | f + 1, hfu =>
        rw [hsg f]
        have hrk : jk_rok m (R.2.1 + 1) (jk_trm b m q s' R.2.2 (R.2.1 + 1)) := jk_rok_trm (hok hR1).2 (by omega)
        have hr1 := hrk hT
        exact jk_sumR_loop hm hq hq3 f hf (jk_tr_ft ht (jk_ft_tr ⟨fun o h1 h2 => (hf0.1 o h1 h2).symm, fun j h1 h2 h3 => (hf0.2 j h1 h2 h3).symm⟩ hf) (by omega)) hT h8 hr (fun h => ⟨by omega, hr1.2⟩) (by omega)
    refine jw_W_n 1 (i' := 35) (ls' := [some (.inr (.inr 103)), some (.inl x)]) (st' := [.inr (.inr 103)]) rfl ?_
    refine jw_W_call (as := [.inr (.inr 103)]) (rest := []) rfl rfl rfl rfl (Nat.le_of_ble_eq_true rfl) (.inr rfl) (jk_hereR ht) (by omega) ?_ rfl
    rintro r1 σz ⟨rfl, hs⟩
    rw [hs]
    rw [em, e8]
    show jw_W (js_S n) _ md_217 36 [some (.inr (.inr 103)), some (.inl x)] [.inl (jk_h b m R.2.1)] τ _
    refine jw_W_n 1 (i' := 37) (ls' := [some (.inr (.inr 103)), some (.inl x)]) (st' := [.inl 43, .inl (jk_h b m R.2.1)]) rfl ?_
    refine jw_W_ic rfl (by unfold jw_rg; omega) (by unfold jw_rg; omega) (fun hc1 => ?_) (fun hc1 => ?_)
    · have hc1 : (jk_h b m R.2.1) = 43 := hc1
      refine jw_W_n 1 (i' := 43) (ls' := [some (.inr (.inr 103)), some (.inl x)]) (st' := [.inr (.inr 103)]) rfl ?_
      refine jw_W_call (as := [.inr (.inr 103)]) (rest := []) rfl rfl rfl rfl (Nat.le_of_ble_eq_true rfl) (.inr rfl) (jk_hereR ht) (by omega) ?_ rfl
      rintro r1 σz ⟨rfl, hs⟩
      rw [hs]
      rw [em, e8]
      show jw_W (js_S n) _ md_217 44 [some (.inr (.inr 103)), some (.inl x)] [.inl (jk_h b m R.2.1)] τ _
      refine jw_W_n 1 (i' := 45) (ls' := [some (.inr (.inr 103)), some (.inl x)]) (st' := [.inl 45, .inl (jk_h b m R.2.1)]) rfl ?_
      refine jw_W_ic rfl (by unfold jw_rg; omega) (by unfold jw_rg; omega) (fun hc2 => ?_) (fun hc2 => ?_)
      · have hc2 : (jk_h b m R.2.1) ≠ 45 := hc2
        refine jw_W_n 4 (i' := 52) (ls' := [some (.inr (.inr 103)), some (.inl 1)]) (st' := [.inr (.inr 103), .inr (.inr 103)]) rfl ?_
        refine jw_W_gf rfl rfl rfl ?_
        show jw_W (js_S n) _ md_217 53 [some (.inr (.inr 103)), some (.inl 1)] [.inl (τ 103 8), .inr (.inr 103)] τ _
        refine jw_W_n 2 (i' := 55) (ls' := [some (.inr (.inr 103)), some (.inl 1)]) (st' := [.inl (τ 103 8 + 1), .inr (.inr 103)]) rfl ?_
        refine jw_W_pf (a := τ 103 8 + 1) rfl (by omega) rfl rfl rfl rfl rfl ?_
        obtain ⟨σa, hsa⟩ : ∃ s, s = jw_up τ 103 8 (τ 103 8 + 1) := ⟨_, rfl⟩
        show jw_W (js_S n) _ _ _ _ _ (jw_up τ 103 8 (τ 103 8 + 1)) _
        rw [← hsa]
        have hfa : jk_ft τ σa := by rw [hsa]; exact jk_ft_up (jk_ft_rf τ) (by omega)
        have ea8 : σa 103 8 = R.2.1 + 1 := by rw [hsa, jw_up_eq, e8]
        have ea9 : σa 103 9 = m := by rw [hsa, jw_up_ne _ (by omega)]; exact em
        have eaq : σa 103 34 = q := by rw [hsa, jw_up_ne _ (by omega)]; exact eq34
        have eac : σa 124 = τ 124 := by rw [hsa, jw_up_out _ _ _ (by omega)]
        have hta : jk_tr σa b := jk_tr_ft ht hfa (by omega)
        refine jw_W_n 2 (i' := 58) (ls' := [some (.inr (.inr 103)), some (.inl 1)]) (st' := [.inl 1, .inr (.inr 103)]) rfl ?_
        refine jw_W_call (as := [.inr (.inr 103), .inl 1]) (rest := []) rfl rfl rfl rfl (Nat.le_of_ble_eq_true rfl) (.inr rfl) (jk_readsTermX hta (by omega) (by omega) (s := 1) (by omega) (t := R.2.2) (fun j j0 j1 => ⟨by rw [eac]; exact hrow j j0 j1, (hok hR1).2 j j0 j1⟩)) (by omega) ?_ rfl
        rintro r1 σz (⟨rfl, hT, hf, h10⟩ | ⟨rfl, hT, hf, h8, hr⟩)
        · rename jw_H => σb
          rw [ea8, ea9, eaq] at hT h10
          have hfb := jk_ft_tr (jk_ft_tr hf0 hfa) hf
          have hsg := jk_sg_yes (b := b) (m := m) (q := q) (s := 1) hR1 (by omega)
          show jw_W (js_S n) _ md_217 59 [some (.inr (.inr 103)), some (.inl 1)] [.inl 0] σb _
          refine jw_W_if rfl (by unfold jw_rg; omega) (fun hc3 => ?_) (fun hc3 => ?_)
          · exact absurd hc3 (show ¬ ((0 : Int) ≠ 0) by omega)
          · clear hc3
            refine jw_W_n 1 (i' := 61) (ls' := [some (.inr (.inr 103)), some (.inl 1)]) (st' := [.inl 0]) rfl ?_
            refine jw_W_ir rfl ?_
            exact .inl ⟨rfl, bad hsg hT hfb h10 (by omega)⟩
        · rename jw_H => σc
          rw [ea8, ea9, eaq] at hT h8 hr
          have hfb := jk_ft_tr (jk_ft_tr hf0 hfa) hf
          have hsg := jk_sg_yes (b := b) (m := m) (q := q) (s := 1) hR1 (by omega)
          show jw_W (js_S n) _ md_217 59 [some (.inr (.inr 103)), some (.inl 1)] [.inl 1] σc _
          refine jw_W_if rfl (by unfold jw_rg; omega) (fun hc4 => ?_) (fun hc4 => ?_)
          · clear hc4
            exact go hsg hT hfb h8 hr (by omega)
          · exact absurd hc4 (show ¬ ¬ ((1 : Int) ≠ 0) by omega)
      · have hc2 : (jk_h b m R.2.1) = 45 := Classical.not_not.mp hc2
        refine jw_W_n 5 (i' := 52) (ls' := [some (.inr (.inr 103)), some (.inl ((-1)))]) (st' := [.inr (.inr 103), .inr (.inr 103)]) rfl ?_
        refine jw_W_gf rfl rfl rfl ?_
        show jw_W (js_S n) _ md_217 53 [some (.inr (.inr 103)), some (.inl ((-1)))] [.inl (τ 103 8), .inr (.inr 103)] τ _
        refine jw_W_n 2 (i' := 55) (ls' := [some (.inr (.inr 103)), some (.inl ((-1)))]) (st' := [.inl (τ 103 8 + 1), .inr (.inr 103)]) rfl ?_
        refine jw_W_pf (a := τ 103 8 + 1) rfl (by omega) rfl rfl rfl rfl rfl ?_
        obtain ⟨σa, hsa⟩ : ∃ s, s = jw_up τ 103 8 (τ 103 8 + 1) := ⟨_, rfl⟩
        show jw_W (js_S n) _ _ _ _ _ (jw_up τ 103 8 (τ 103 8 + 1)) _
        rw [← hsa]
        have hfa : jk_ft τ σa := by rw [hsa]; exact jk_ft_up (jk_ft_rf τ) (by omega)
        have ea8 : σa 103 8 = R.2.1 + 1 := by rw [hsa, jw_up_eq, e8]
        have ea9 : σa 103 9 = m := by rw [hsa, jw_up_ne _ (by omega)]; exact em
        have eaq : σa 103 34 = q := by rw [hsa, jw_up_ne _ (by omega)]; exact eq34
        have eac : σa 124 = τ 124 := by rw [hsa, jw_up_out _ _ _ (by omega)]
        have hta : jk_tr σa b := jk_tr_ft ht hfa (by omega)
        refine jw_W_n 2 (i' := 58) (ls' := [some (.inr (.inr 103)), some (.inl ((-1)))]) (st' := [.inl ((-1)), .inr (.inr 103)]) rfl ?_
        refine jw_W_call (as := [.inr (.inr 103), .inl ((-1))]) (rest := []) rfl rfl rfl rfl (Nat.le_of_ble_eq_true rfl) (.inr rfl) (jk_readsTermX hta (by omega) (by omega) (s := -1) (by omega) (t := R.2.2) (fun j j0 j1 => ⟨by rw [eac]; exact hrow j j0 j1, (hok hR1).2 j j0 j1⟩)) (by omega) ?_ rfl
        rintro r1 σz (⟨rfl, hT, hf, h10⟩ | ⟨rfl, hT, hf, h8, hr⟩)
        · rename jw_H => σb
          rw [ea8, ea9, eaq] at hT h10
          have hfb := jk_ft_tr (jk_ft_tr hf0 hfa) hf
          have hsg := jk_sg_yes (b := b) (m := m) (q := q) (s := -1) hR1 (by omega)
          show jw_W (js_S n) _ md_217 59 [some (.inr (.inr 103)), some (.inl ((-1)))] [.inl 0] σb _
          refine jw_W_if rfl (by unfold jw_rg; omega) (fun hc5 => ?_) (fun hc5 => ?_)
          · exact absurd hc5 (show ¬ ((0 : Int) ≠ 0) by omega)
          · clear hc5
            refine jw_W_n 1 (i' := 61) (ls' := [some (.inr (.inr 103)), some (.inl ((-1)))]) (st' := [.inl 0]) rfl ?_
            refine jw_W_ir rfl ?_
            exact .inl ⟨rfl, bad hsg hT hfb h10 (by omega)⟩
        · rename jw_H => σc
          rw [ea8, ea9, eaq] at hT h8 hr
          have hfb := jk_ft_tr (jk_ft_tr hf0 hfa) hf
          have hsg := jk_sg_yes (b := b) (m := m) (q := q) (s := -1) hR1 (by omega)
          show jw_W (js_S n) _ md_217 59 [some (.inr (.inr 103)), some (.inl ((-1)))] [.inl 1] σc _
          refine jw_W_if rfl (by unfold jw_rg; omega) (fun hc6 => ?_) (fun hc6 => ?_)
          · clear hc6
            exact go hsg hT hfb h8 hr (by omega)
          · exact absurd hc6 (show ¬ ¬ ((1 : Int) ≠ 0) by omega)
    · have hc1 : ¬ ((jk_h b m R.2.1) = 43) := hc1
      refine jw_W_n 1 (i' := 39) (ls' := [some (.inr (.inr 103)), some (.inl x)]) (st' := [.inr (.inr 103)]) rfl ?_
      refine jw_W_call (as := [.inr (.inr 103)]) (rest := []) rfl rfl rfl rfl (Nat.le_of_ble_eq_true rfl) (.inr rfl) (jk_hereR ht) (by omega) ?_ rfl
      rintro r1 σz ⟨rfl, hs⟩
      rw [hs]
      rw [em, e8]
      show jw_W (js_S n) _ md_217 40 [some (.inr (.inr 103)), some (.inl x)] [.inl (jk_h b m R.2.1)] τ _
      refine jw_W_n 1 (i' := 41) (ls' := [some (.inr (.inr 103)), some (.inl x)]) (st' := [.inl 45, .inl (jk_h b m R.2.1)]) rfl ?_
      refine jw_W_ic rfl (by unfold jw_rg; omega) (by unfold jw_rg; omega) (fun hc7 => ?_) (fun hc7 => ?_)
      · have hc7 : (jk_h b m R.2.1) ≠ 45 := hc7
        refine jw_W_n 1 (i' := 63) (ls' := [some (.inr (.inr 103)), some (.inl x)]) (st' := [.inl 1]) rfl ?_
        refine jw_W_ir rfl ?_
        exact .inr ⟨rfl, by rw [jk_sg_no (by omega)]; exact ⟨hR1, hf0, e8, hrow⟩⟩
      · have hc7 : (jk_h b m R.2.1) = 45 := Classical.not_not.mp hc7
        refine jw_W_n 1 (i' := 43) (ls' := [some (.inr (.inr 103)), some (.inl x)]) (st' := [.inr (.inr 103)]) rfl ?_
        refine jw_W_call (as := [.inr (.inr 103)]) (rest := []) rfl rfl rfl rfl (Nat.le_of_ble_eq_true rfl) (.inr rfl) (jk_hereR ht) (by omega) ?_ rfl
        rintro r1 σz ⟨rfl, hs⟩
        rw [hs]
        rw [em, e8]
        show jw_W (js_S n) _ md_217 44 [some (.inr (.inr 103)), some (.inl x)] [.inl (jk_h b m R.2.1)] τ _
        refine jw_W_n 1 (i' := 45) (ls' := [some (.inr (.inr 103)), some (.inl x)]) (st' := [.inl 45, .inl (jk_h b m R.2.1)]) rfl ?_
        refine jw_W_ic rfl (by unfold jw_rg; omega) (by unfold jw_rg; omega) (fun hc8 => ?_) (fun hc8 => ?_)
        · have hc8 : (jk_h b m R.2.1) ≠ 45 := hc8
          refine jw_W_n 4 (i' := 52) (ls' := [some (.inr (.inr 103)), some (.inl 1)]) (st' := [.inr (.inr 103), .inr (.inr 103)]) rfl ?_
          refine jw_W_gf rfl rfl rfl ?_
          show jw_W (js_S n) _ md_217 53 [some (.inr (.inr 103)), some (.inl 1)] [.inl (τ 103 8), .inr (.inr 103)] τ _
          refine jw_W_n 2 (i' := 55) (ls' := [some (.inr (.inr 103)), some (.inl 1)]) (st' := [.inl (τ 103 8 + 1), .inr (.inr 103)]) rfl ?_
          refine jw_W_pf (a := τ 103 8 + 1) rfl (by omega) rfl rfl rfl rfl rfl ?_
          obtain ⟨σa, hsa⟩ : ∃ s, s = jw_up τ 103 8 (τ 103 8 + 1) := ⟨_, rfl⟩
          show jw_W (js_S n) _ _ _ _ _ (jw_up τ 103 8 (τ 103 8 + 1)) _
          rw [← hsa]
          have hfa : jk_ft τ σa := by rw [hsa]; exact jk_ft_up (jk_ft_rf τ) (by omega)
          have ea8 : σa 103 8 = R.2.1 + 1 := by rw [hsa, jw_up_eq, e8]
          have ea9 : σa 103 9 = m := by rw [hsa, jw_up_ne _ (by omega)]; exact em
          have eaq : σa 103 34 = q := by rw [hsa, jw_up_ne _ (by omega)]; exact eq34
          have eac : σa 124 = τ 124 := by rw [hsa, jw_up_out _ _ _ (by omega)]
          have hta : jk_tr σa b := jk_tr_ft ht hfa (by omega)
          refine jw_W_n 2 (i' := 58) (ls' := [some (.inr (.inr 103)), some (.inl 1)]) (st' := [.inl 1, .inr (.inr 103)]) rfl ?_
          refine jw_W_call (as := [.inr (.inr 103), .inl 1]) (rest := []) rfl rfl rfl rfl (Nat.le_of_ble_eq_true rfl) (.inr rfl) (jk_readsTermX hta (by omega) (by omega) (s := 1) (by omega) (t := R.2.2) (fun j j0 j1 => ⟨by rw [eac]; exact hrow j j0 j1, (hok hR1).2 j j0 j1⟩)) (by omega) ?_ rfl
          rintro r1 σz (⟨rfl, hT, hf, h10⟩ | ⟨rfl, hT, hf, h8, hr⟩)
          · rename jw_H => σb
            rw [ea8, ea9, eaq] at hT h10
            have hfb := jk_ft_tr (jk_ft_tr hf0 hfa) hf
            have hsg := jk_sg_yes (b := b) (m := m) (q := q) (s := 1) hR1 (by omega)
            show jw_W (js_S n) _ md_217 59 [some (.inr (.inr 103)), some (.inl 1)] [.inl 0] σb _
            refine jw_W_if rfl (by unfold jw_rg; omega) (fun hc9 => ?_) (fun hc9 => ?_)
            · exact absurd hc9 (show ¬ ((0 : Int) ≠ 0) by omega)
            · clear hc9
              refine jw_W_n 1 (i' := 61) (ls' := [some (.inr (.inr 103)), some (.inl 1)]) (st' := [.inl 0]) rfl ?_
              refine jw_W_ir rfl ?_
              exact .inl ⟨rfl, bad hsg hT hfb h10 (by omega)⟩
          · rename jw_H => σc
            rw [ea8, ea9, eaq] at hT h8 hr
            have hfb := jk_ft_tr (jk_ft_tr hf0 hfa) hf
            have hsg := jk_sg_yes (b := b) (m := m) (q := q) (s := 1) hR1 (by omega)
            show jw_W (js_S n) _ md_217 59 [some (.inr (.inr 103)), some (.inl 1)] [.inl 1] σc _
            refine jw_W_if rfl (by unfold jw_rg; omega) (fun hc10 => ?_) (fun hc10 => ?_)
            · clear hc10
              exact go hsg hT hfb h8 hr (by omega)
            · exact absurd hc10 (show ¬ ¬ ((1 : Int) ≠ 0) by omega)
        · have hc8 : (jk_h b m R.2.1) = 45 := Classical.not_not.mp hc8
          refine jw_W_n 5 (i' := 52) (ls' := [some (.inr (.inr 103)), some (.inl ((-1)))]) (st' := [.inr (.inr 103), .inr (.inr 103)]) rfl ?_
          refine jw_W_gf rfl rfl rfl ?_
          show jw_W (js_S n) _ md_217 53 [some (.inr (.inr 103)), some (.inl ((-1)))] [.inl (τ 103 8), .inr (.inr 103)] τ _
          refine jw_W_n 2 (i' := 55) (ls' := [some (.inr (.inr 103)), some (.inl ((-1)))]) (st' := [.inl (τ 103 8 + 1), .inr (.inr 103)]) rfl ?_
          refine jw_W_pf (a := τ 103 8 + 1) rfl (by omega) rfl rfl rfl rfl rfl ?_
          obtain ⟨σa, hsa⟩ : ∃ s, s = jw_up τ 103 8 (τ 103 8 + 1) := ⟨_, rfl⟩
          show jw_W (js_S n) _ _ _ _ _ (jw_up τ 103 8 (τ 103 8 + 1)) _
          rw [← hsa]
          have hfa : jk_ft τ σa := by rw [hsa]; exact jk_ft_up (jk_ft_rf τ) (by omega)
          have ea8 : σa 103 8 = R.2.1 + 1 := by rw [hsa, jw_up_eq, e8]
          have ea9 : σa 103 9 = m := by rw [hsa, jw_up_ne _ (by omega)]; exact em
          have eaq : σa 103 34 = q := by rw [hsa, jw_up_ne _ (by omega)]; exact eq34
          have eac : σa 124 = τ 124 := by rw [hsa, jw_up_out _ _ _ (by omega)]
          have hta : jk_tr σa b := jk_tr_ft ht hfa (by omega)
          refine jw_W_n 2 (i' := 58) (ls' := [some (.inr (.inr 103)), some (.inl ((-1)))]) (st' := [.inl ((-1)), .inr (.inr 103)]) rfl ?_
          refine jw_W_call (as := [.inr (.inr 103), .inl ((-1))]) (rest := []) rfl rfl rfl rfl (Nat.le_of_ble_eq_true rfl) (.inr rfl) (jk_readsTermX hta (by omega) (by omega) (s := -1) (by omega) (t := R.2.2) (fun j j0 j1 => ⟨by rw [eac]; exact hrow j j0 j1, (hok hR1).2 j j0 j1⟩)) (by omega) ?_ rfl
          rintro r1 σz (⟨rfl, hT, hf, h10⟩ | ⟨rfl, hT, hf, h8, hr⟩)
          · rename jw_H => σb
            rw [ea8, ea9, eaq] at hT h10
            have hfb := jk_ft_tr (jk_ft_tr hf0 hfa) hf
            have hsg := jk_sg_yes (b := b) (m := m) (q := q) (s := -1) hR1 (by omega)
            show jw_W (js_S n) _ md_217 59 [some (.inr (.inr 103)), some (.inl ((-1)))] [.inl 0] σb _
            refine jw_W_if rfl (by unfold jw_rg; omega) (fun hc11 => ?_) (fun hc11 => ?_)
            · exact absurd hc11 (show ¬ ((0 : Int) ≠ 0) by omega)
            · clear hc11
              refine jw_W_n 1 (i' := 61) (ls' := [some (.inr (.inr 103)), some (.inl ((-1)))]) (st' := [.inl 0]) rfl ?_
              refine jw_W_ir rfl ?_
              exact .inl ⟨rfl, bad hsg hT hfb h10 (by omega)⟩
          · rename jw_H => σc
            rw [ea8, ea9, eaq] at hT h8 hr
            have hfb := jk_ft_tr (jk_ft_tr hf0 hfa) hf
            have hsg := jk_sg_yes (b := b) (m := m) (q := q) (s := -1) hR1 (by omega)
            show jw_W (js_S n) _ md_217 59 [some (.inr (.inr 103)), some (.inl ((-1)))] [.inl 1] σc _
            refine jw_W_if rfl (by unfold jw_rg; omega) (fun hc12 => ?_) (fun hc12 => ?_)
            · clear hc12
              exact go hsg hT hfb h8 hr (by omega)
            · exact absurd hc12 (show ¬ ¬ ((1 : Int) ≠ 0) by omega)
theorem jk_readsSum {n : Nat} {σ : jw_H} {b : Int → Int} (ht : jk_tr σ b) (hp9 : σ 103 8 ≤ σ 103 9) (hq : 0 ≤ σ 103 34 ∧ σ 103 34 ≤ 3)  : jw_T (js_S n) 4 217 [.inr (.inr 103)] σ (fun r σ' => (r = some (.inl 0) ∧ (jk_sm b (σ 103 9) (σ 103 34) (σ 103 8)).1 ≠ 0 ∧ jk_ft σ σ' ∧ σ' 103 10 = (jk_sm b (σ 103 9) (σ 103 34) (σ 103 8)).1) ∨ (r = some (.inl 1) ∧ (jk_sm b (σ 103 9) (σ 103 34) (σ 103 8)).1 = 0 ∧ jk_ft σ σ' ∧ σ' 103 8 = (jk_sm b (σ 103 9) (σ 103 34) (σ 103 8)).2.1 ∧ ∀ j, 0 ≤ j → j < 3 → σ' 124 j = (jk_sm b (σ 103 9) (σ 103 34) (σ 103 8)).2.2 j)) := by
  refine jw_T_of (D := 3) (M := mm_217) rfl (Nat.le_of_ble_eq_true rfl) (ls0 := [some (.inr (.inr 103)), none]) rfl ?_ (by rintro _ _ (⟨rfl, -⟩ | ⟨rfl, -⟩) <;> rfl)
  have hq0 := ht.1
  have hq1 := ht.2.1
  have hhr := jk_h_rg (b := b) (n := σ 103 9) (i := σ 103 8) ht.1.1 (fun j j0 j1 => (ht.2.2 j j0 j1).2.2)
  refine jw_W_n 4 (i' := 4) (ls' := [some (.inr (.inr 103)), some (.inl 0)]) (st' := [.inl 3, .inl 0]) rfl ?_
  refine jw_W_ic rfl (by unfold jw_rg; omega) (by unfold jw_rg; omega) (fun hc1 => ?_) (fun hc1 => ?_)
  · exact absurd hc1 (show ¬ ((0 : Int) ≥ 3) by omega)
  · clear hc1
    refine jw_W_n 1 (i' := 6) (ls' := [some (.inr (.inr 103)), some (.inl 0)]) (st' := [.inr (.inr 103)]) rfl ?_
    refine jw_W_gf rfl rfl rfl ?_
    show jw_W (js_S n) _ md_217 7 [some (.inr (.inr 103)), some (.inl 0)] [.inr (.inr 124)] σ _
    refine jw_W_n 2 (i' := 9) (ls' := [some (.inr (.inr 103)), some (.inl 0)]) (st' := [.inl 0, .inl 0, .inr (.inr 124)]) rfl ?_
    refine jw_W_is rfl (by omega) rfl (by omega) (by omega) (by omega) ?_
    refine jw_W_n 4 (i' := 4) (ls' := [some (.inr (.inr 103)), some (.inl 1)]) (st' := [.inl 3, .inl 1]) rfl ?_
    refine jw_W_ic rfl (by unfold jw_rg; omega) (by unfold jw_rg; omega) (fun hc2 => ?_) (fun hc2 => ?_)
    · exact absurd hc2 (show ¬ ((1 : Int) ≥ 3) by omega)
    · clear hc2
      refine jw_W_n 1 (i' := 6) (ls' := [some (.inr (.inr 103)), some (.inl 1)]) (st' := [.inr (.inr 103)]) rfl ?_
      refine jw_W_gf rfl rfl rfl ?_
      show jw_W (js_S n) _ md_217 7 [some (.inr (.inr 103)), some (.inl 1)] [.inr (.inr 124)] ((jw_up σ 124 0 0)) _
      refine jw_W_n 2 (i' := 9) (ls' := [some (.inr (.inr 103)), some (.inl 1)]) (st' := [.inl 0, .inl 1, .inr (.inr 124)]) rfl ?_
      refine jw_W_is rfl (by omega) rfl (by omega) (by omega) (by omega) ?_
      refine jw_W_n 4 (i' := 4) (ls' := [some (.inr (.inr 103)), some (.inl 2)]) (st' := [.inl 3, .inl 2]) rfl ?_
      refine jw_W_ic rfl (by unfold jw_rg; omega) (by unfold jw_rg; omega) (fun hc3 => ?_) (fun hc3 => ?_)
      · exact absurd hc3 (show ¬ ((2 : Int) ≥ 3) by omega)
      · clear hc3
        refine jw_W_n 1 (i' := 6) (ls' := [some (.inr (.inr 103)), some (.inl 2)]) (st' := [.inr (.inr 103)]) rfl ?_
        refine jw_W_gf rfl rfl rfl ?_
        show jw_W (js_S n) _ md_217 7 [some (.inr (.inr 103)), some (.inl 2)] [.inr (.inr 124)] ((jw_up (jw_up σ 124 0 0) 124 1 0)) _
        refine jw_W_n 2 (i' := 9) (ls' := [some (.inr (.inr 103)), some (.inl 2)]) (st' := [.inl 0, .inl 2, .inr (.inr 124)]) rfl ?_
        refine jw_W_is rfl (by omega) rfl (by omega) (by omega) (by omega) ?_
        refine jw_W_n 4 (i' := 4) (ls' := [some (.inr (.inr 103)), some (.inl 3)]) (st' := [.inl 3, .inl 3]) rfl ?_
        refine jw_W_ic rfl (by unfold jw_rg; omega) (by unfold jw_rg; omega) (fun hc4 => ?_) (fun hc4 => ?_)
        · clear hc4
          obtain ⟨σ0, hs0'⟩ : ∃ s, s = jw_up (jw_up (jw_up σ 124 0 0) 124 1 0) 124 2 0 := ⟨_, rfl⟩
          show jw_W (js_S n) _ _ _ _ _ (jw_up (jw_up (jw_up σ 124 0 0) 124 1 0) 124 2 0) _
          rw [← hs0']
          have hf0 : jk_ft σ σ0 := by rw [hs0']; exact jk_ft_up (jk_ft_up (jk_ft_up (jk_ft_rf σ) (by omega)) (by omega)) (by omega)
          have e08 : σ0 103 8 = σ 103 8 := by rw [hs0', jw_up_out _ _ _ (by omega), jw_up_out _ _ _ (by omega), jw_up_out _ _ _ (by omega)]
          have e09 : σ0 103 9 = σ 103 9 := hf0.2 9 (by omega) (by omega) (by omega)
          have e0q : σ0 103 34 = σ 103 34 := hf0.2 34 (by omega) (by omega) (by omega)
          have ht0 : jk_tr σ0 b := jk_tr_ft ht hf0 (by omega)
          have e0r : ∀ j, 0 ≤ j → j < 3 → σ0 124 j = 0 := by
            intro j j0 j1
            rw [hs0']
            rcases (show j = 0 ∨ j = 1 ∨ j = 2 by omega) with rfl | rfl | rfl
            · rw [jw_up_ne _ (by omega), jw_up_ne _ (by omega), jw_up_eq]
            · rw [jw_up_ne _ (by omega), jw_up_eq]
            · rw [jw_up_eq]
          refine jw_W_n 1 (i' := 13) (ls' := [some (.inr (.inr 103)), some (.inl 3)]) (st' := [.inr (.inr 103)]) rfl ?_
          refine jw_W_call (as := [.inr (.inr 103)]) (rest := []) rfl rfl rfl rfl (Nat.le_of_ble_eq_true rfl) (.inr rfl) (jk_hereR ht0) (by omega) ?_ rfl
          rintro r1 σz ⟨rfl, hs⟩
          rw [hs]
          rw [e09, e08]
          show jw_W (js_S n) _ md_217 14 [some (.inr (.inr 103)), some (.inl 3)] [.inl (jk_h b (σ 103 9) (σ 103 8))] σ0 _
          refine jw_W_n 1 (i' := 15) (ls' := [some (.inr (.inr 103)), some (.inl 3)]) (st' := [.inl 45, .inl (jk_h b (σ 103 9) (σ 103 8))]) rfl ?_
          refine jw_W_ic rfl (by unfold jw_rg; omega) (by unfold jw_rg; omega) (fun hc5 => ?_) (fun hc5 => ?_)
          · have hc5 : (jk_h b (σ 103 9) (σ 103 8)) ≠ 45 := hc5
            refine jw_W_n 3 (i' := 21) (ls' := [some (.inr (.inr 103)), some (.inl 1)]) (st' := [.inl 1]) rfl ?_
            refine jw_W_if rfl (by unfold jw_rg; omega) (fun hc6 => ?_) (fun hc6 => ?_)
            · clear hc6
              refine jw_W_n 2 (i' := 30) (ls' := [some (.inr (.inr 103)), some (.inl 1)]) (st' := [.inl 1, .inr (.inr 103)]) rfl ?_
              refine jw_W_call (as := [.inr (.inr 103), .inl 1]) (rest := []) rfl rfl rfl rfl (Nat.le_of_ble_eq_true rfl) (.inr rfl) (jk_readsTermX ht0 (by omega) (by omega) (s := 1) (by omega) (t := fun _ => 0) (fun j j0 j1 => ⟨e0r j j0 j1, by omega, by omega⟩)) (by omega) ?_ rfl
              rintro r1 σz (⟨rfl, hT, hf, h10⟩ | ⟨rfl, hT, hf, h8, hr⟩)
              · rename jw_H => σb
                rw [e08, e09, e0q] at hT h10
                have hfb := jk_ft_tr hf0 hf
                have hS : jk_sm b (σ 103 9) (σ 103 34) (σ 103 8) = jk_sg b (σ 103 9) (σ 103 34) 300 (jk_trm b (σ 103 9) (σ 103 34) (1) (fun _ => 0) (σ 103 8)) := by unfold jk_sm; rw [if_neg (by assumption)]
                show jw_W (js_S n) _ md_217 31 [some (.inr (.inr 103)), some (.inl 1)] [.inl 0] σb _
                refine jw_W_if rfl (by unfold jw_rg; omega) (fun hc7 => ?_) (fun hc7 => ?_)
                · exact absurd hc7 (show ¬ ((0 : Int) ≠ 0) by omega)
                · clear hc7
                  refine jw_W_n 1 (i' := 33) (ls' := [some (.inr (.inr 103)), some (.inl 1)]) (st' := [.inl 0]) rfl ?_
                  refine jw_W_ir rfl ?_
                  refine .inl ⟨rfl, ?_⟩
                  rw [hS, jk_sg_no (fun hh => hT hh.1)]
                  exact ⟨hT, hfb, h10⟩
              · rename jw_H => σc
                rw [e08, e09, e0q] at hT h8 hr
                have hfb := jk_ft_tr hf0 hf
                have hS : jk_sm b (σ 103 9) (σ 103 34) (σ 103 8) = jk_sg b (σ 103 9) (σ 103 34) 300 (jk_trm b (σ 103 9) (σ 103 34) (1) (fun _ => 0) (σ 103 8)) := by unfold jk_sm; rw [if_neg (by assumption)]
                have hrk := jk_rok_trm (b := b) (m := σ 103 9) (q := σ 103 34) (s := 1) (t := fun _ => 0) (i := (σ 103 8)) (fun _ _ _ => by omega) (by omega) hT
                show jw_W (js_S n) _ md_217 31 [some (.inr (.inr 103)), some (.inl 1)] [.inl 1] σc _
                refine jw_W_if rfl (by unfold jw_rg; omega) (fun hc8 => ?_) (fun hc8 => ?_)
                · clear hc8
                  rw [hS]
                  exact jk_sumR_loop rfl rfl hq 300 hfb (jk_tr_ft ht hfb (by omega)) hT h8 hr (fun _ => ⟨by omega, hrk.2⟩) (by omega)
                · exact absurd hc8 (show ¬ ¬ ((1 : Int) ≠ 0) by omega)
            · exact absurd hc6 (show ¬ ¬ ((1 : Int) ≥ 0) by omega)
          · have hc5 : (jk_h b (σ 103 9) (σ 103 8)) = 45 := Classical.not_not.mp hc5
            refine jw_W_n 4 (i' := 21) (ls' := [some (.inr (.inr 103)), some (.inl ((-1)))]) (st' := [.inl ((-1))]) rfl ?_
            refine jw_W_if rfl (by unfold jw_rg; omega) (fun hc9 => ?_) (fun hc9 => ?_)
            · exact absurd hc9 (show ¬ ((((-1 : Int))) ≥ 0) by omega)
            · clear hc9
              refine jw_W_n 2 (i' := 24) (ls' := [some (.inr (.inr 103)), some (.inl ((-1)))]) (st' := [.inr (.inr 103), .inr (.inr 103)]) rfl ?_
              refine jw_W_gf rfl rfl rfl ?_
              show jw_W (js_S n) _ md_217 25 [some (.inr (.inr 103)), some (.inl ((-1)))] [.inl (σ0 103 8), .inr (.inr 103)] σ0 _
              refine jw_W_n 2 (i' := 27) (ls' := [some (.inr (.inr 103)), some (.inl ((-1)))]) (st' := [.inl (σ0 103 8 + 1), .inr (.inr 103)]) rfl ?_
              refine jw_W_pf (a := σ0 103 8 + 1) rfl (by omega) rfl rfl rfl rfl rfl ?_
              obtain ⟨σa, hsa⟩ : ∃ s, s = jw_up σ0 103 8 (σ0 103 8 + 1) := ⟨_, rfl⟩
              show jw_W (js_S n) _ _ _ _ _ (jw_up σ0 103 8 (σ0 103 8 + 1)) _
              rw [← hsa]
              have hfa : jk_ft σ0 σa := by rw [hsa]; exact jk_ft_up (jk_ft_rf σ0) (by omega)
              have ea8 : σa 103 8 = σ 103 8 + 1 := by rw [hsa, jw_up_eq, e08]
              have ea9 : σa 103 9 = σ 103 9 := by rw [hsa, jw_up_ne _ (by omega)]; exact e09
              have eaq : σa 103 34 = σ 103 34 := by rw [hsa, jw_up_ne _ (by omega)]; exact e0q
              have eac : σa 124 = σ0 124 := by rw [hsa, jw_up_out _ _ _ (by omega)]
              have hta : jk_tr σa b := jk_tr_ft ht0 hfa (by omega)
              refine jw_W_n 2 (i' := 30) (ls' := [some (.inr (.inr 103)), some (.inl ((-1)))]) (st' := [.inl ((-1)), .inr (.inr 103)]) rfl ?_
              refine jw_W_call (as := [.inr (.inr 103), .inl ((-1))]) (rest := []) rfl rfl rfl rfl (Nat.le_of_ble_eq_true rfl) (.inr rfl) (jk_readsTermX hta (by omega) (by omega) (s := -1) (by omega) (t := fun _ => 0) (fun j j0 j1 => ⟨by rw [eac]; exact e0r j j0 j1, by omega, by omega⟩)) (by omega) ?_ rfl
              rintro r1 σz (⟨rfl, hT, hf, h10⟩ | ⟨rfl, hT, hf, h8, hr⟩)
              · rename jw_H => σb
                rw [ea8, ea9, eaq] at hT h10
                have hfb := jk_ft_tr (jk_ft_tr hf0 hfa) hf
                have hS : jk_sm b (σ 103 9) (σ 103 34) (σ 103 8) = jk_sg b (σ 103 9) (σ 103 34) 300 (jk_trm b (σ 103 9) (σ 103 34) (-1) (fun _ => 0) (σ 103 8 + 1)) := by unfold jk_sm; rw [if_pos (by assumption)]
                show jw_W (js_S n) _ md_217 31 [some (.inr (.inr 103)), some (.inl ((-1)))] [.inl 0] σb _
                refine jw_W_if rfl (by unfold jw_rg; omega) (fun hc10 => ?_) (fun hc10 => ?_)
                · exact absurd hc10 (show ¬ ((0 : Int) ≠ 0) by omega)
                · clear hc10
                  refine jw_W_n 1 (i' := 33) (ls' := [some (.inr (.inr 103)), some (.inl ((-1)))]) (st' := [.inl 0]) rfl ?_
                  refine jw_W_ir rfl ?_
                  refine .inl ⟨rfl, ?_⟩
                  rw [hS, jk_sg_no (fun hh => hT hh.1)]
                  exact ⟨hT, hfb, h10⟩
              · rename jw_H => σc
                rw [ea8, ea9, eaq] at hT h8 hr
                have hfb := jk_ft_tr (jk_ft_tr hf0 hfa) hf
                have hS : jk_sm b (σ 103 9) (σ 103 34) (σ 103 8) = jk_sg b (σ 103 9) (σ 103 34) 300 (jk_trm b (σ 103 9) (σ 103 34) (-1) (fun _ => 0) (σ 103 8 + 1)) := by unfold jk_sm; rw [if_pos (by assumption)]
                have hrk := jk_rok_trm (b := b) (m := σ 103 9) (q := σ 103 34) (s := -1) (t := fun _ => 0) (i := (σ 103 8 + 1)) (fun _ _ _ => by omega) (by omega) hT
                show jw_W (js_S n) _ md_217 31 [some (.inr (.inr 103)), some (.inl ((-1)))] [.inl 1] σc _
                refine jw_W_if rfl (by unfold jw_rg; omega) (fun hc11 => ?_) (fun hc11 => ?_)
                · clear hc11
                  rw [hS]
                  exact jk_sumR_loop rfl rfl hq 300 hfb (jk_tr_ft ht hfb (by omega)) hT h8 hr (fun _ => ⟨by omega, hrk.2⟩) (by omega)
                · exact absurd hc11 (show ¬ ¬ ((1 : Int) ≠ 0) by omega)
        · exact absurd hc4 (show ¬ ¬ ((3 : Int) ≥ 3) by omega)

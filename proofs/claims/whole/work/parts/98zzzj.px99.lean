/-! ===== the whole text, the class ===== -/
theorem jk_begin {n : Nat} {σ : jw_H} {k : Int} (hk : 0 ≤ k ∧ k ≤ 260)  : jw_T (js_S n) 1 105 [.inr (.inr 34), .inr (.inr 14), .inl k] σ (fun r σ' => r = none ∧ σ' 34 3 = 14 ∧ σ' 34 1 = k ∧ σ' 34 0 = 0 ∧ σ' 34 2 = 0 ∧ ∀ c, c ≠ 34 → σ' c = σ c) := by
  refine jw_T_of (D := 0) (M := mm_105) rfl (Nat.le_of_ble_eq_true rfl) (ls0 := [some (.inr (.inr 34)), some (.inr (.inr 14)), some (.inl k)]) rfl ?_ (by rintro _ _ ⟨rfl, -⟩; rfl)
  refine jw_W_n 2 (i' := 2) (ls' := [some (.inr (.inr 34)), some (.inr (.inr 14)), some (.inl k)]) (st' := [.inr (.inr 14), .inr (.inr 34)]) rfl ?_
  refine jw_W_pf (a := 14) rfl (by omega) rfl rfl rfl rfl rfl ?_
  refine jw_W_n 3 (i' := 6) (ls' := [some (.inr (.inr 34)), some (.inr (.inr 14)), some (.inl k)]) (st' := [.inr (.inr 14), .inl k, .inr (.inr 34)]) rfl ?_
  refine jw_W_al rfl rfl ?_
  show jw_W (js_S n) _ md_105 7 [some (.inr (.inr 34)), some (.inr (.inr 14)), some (.inl k)] [.inl 260, .inl k, .inr (.inr 34)] ((jw_up σ 34 3 14)) _
  refine jw_W_min rfl rfl (by unfold jw_rg; omega) (by unfold jw_rg; omega) (Nat.le_of_ble_eq_true rfl) ?_
  rw [if_neg (show ¬ ((260 : Int) < k) by omega)]
  refine jw_W_pf (a := k) rfl (by omega) rfl rfl rfl rfl rfl ?_
  refine jw_W_n 2 (i' := 11) (ls' := [some (.inr (.inr 34)), some (.inr (.inr 14)), some (.inl k)]) (st' := [.inl 0, .inr (.inr 34)]) rfl ?_
  refine jw_W_pf (a := 0) rfl (by omega) rfl rfl rfl rfl rfl ?_
  refine jw_W_n 2 (i' := 14) (ls' := [some (.inr (.inr 34)), some (.inr (.inr 14)), some (.inl k)]) (st' := [.inl 0, .inr (.inr 34)]) rfl ?_
  refine jw_W_pf (a := 0) rfl (by omega) rfl rfl rfl rfl rfl ?_
  refine jw_W_re rfl ?_
  exact ⟨rfl, by rw [jw_up_ne _ (by omega), jw_up_ne _ (by omega), jw_up_ne _ (by omega)]; exact jw_up_eq _ _ _ _, by rw [jw_up_ne _ (by omega), jw_up_ne _ (by omega)]; exact jw_up_eq _ _ _ _, by rw [jw_up_ne _ (by omega)]; exact jw_up_eq _ _ _ _, jw_up_eq _ _ _ _, fun c hc => by rw [jw_up_out _ _ _ hc, jw_up_out _ _ _ hc, jw_up_out _ _ _ hc, jw_up_out _ _ _ hc]⟩
theorem jk_clear {n : Nat} {σ : jw_H} {o : Nat} (hpo : jx_po n o)  : jw_T (js_S n) 1 67 [.inr (.inr o)] σ (fun r σ' => r = none ∧ σ' o 0 = 1 ∧ σ' o 1 = 0 ∧ σ' o 2 = 0 ∧ (∀ j, 0 ≤ j → j < 3 → σ' (o + 5) j = 9) ∧ ∀ c, c ≠ o → c ≠ o + 5 → σ' c = σ c) := by
  refine jw_T_of (D := 0) (M := mm_67) rfl (Nat.le_of_ble_eq_true rfl) (ls0 := [some (.inr (.inr o)), none]) rfl ?_ (by rintro _ _ ⟨rfl, -⟩; rfl)
  have hp0 := hpo.1
  have hob : 15 ≤ o ∧ o ≤ 27 := by omega
  refine jw_W_n 2 (i' := 2) (ls' := [some (.inr (.inr o)), none]) (st' := [.inl 1, .inr (.inr o)]) rfl ?_
  refine jw_W_pf (a := 1) rfl (by omega) hpo.2.1 rfl rfl rfl rfl ?_
  refine jw_W_n 2 (i' := 5) (ls' := [some (.inr (.inr o)), none]) (st' := [.inl 0, .inr (.inr o)]) rfl ?_
  refine jw_W_pf (a := 0) rfl (by omega) hpo.2.1 rfl rfl rfl rfl ?_
  refine jw_W_n 2 (i' := 8) (ls' := [some (.inr (.inr o)), none]) (st' := [.inl 0, .inr (.inr o)]) rfl ?_
  refine jw_W_pf (a := 0) rfl (by omega) hpo.2.1 rfl rfl rfl rfl ?_
  refine jw_W_n 4 (i' := 13) (ls' := [some (.inr (.inr o)), some (.inl 0)]) (st' := [.inl 3, .inl 0]) rfl ?_
  refine jw_W_ic rfl (by unfold jw_rg; omega) (by unfold jw_rg; omega) (fun hc1 => ?_) (fun hc1 => ?_)
  · exact absurd hc1 (show ¬ ((0 : Int) ≥ 3) by omega)
  · clear hc1
    refine jw_W_n 1 (i' := 15) (ls' := [some (.inr (.inr o)), some (.inl 0)]) (st' := [.inr (.inr o)]) rfl ?_
    refine jw_W_gf rfl hpo.2.1 rfl ?_
    show jw_W (js_S n) _ md_67 16 [some (.inr (.inr o)), some (.inl 0)] [.inr (.inr (o + 5))] ((jw_up (jw_up (jw_up σ o 0 1) o 1 0) o 2 0)) _
    refine jw_W_n 2 (i' := 18) (ls' := [some (.inr (.inr o)), some (.inl 0)]) (st' := [.inl 9, .inl 0, .inr (.inr (o + 5))]) rfl ?_
    refine jw_W_is rfl (by omega) hpo.2.2.2.2.2.2 (by omega) (by omega) (by omega) ?_
    refine jw_W_n 4 (i' := 13) (ls' := [some (.inr (.inr o)), some (.inl 1)]) (st' := [.inl 3, .inl 1]) rfl ?_
    refine jw_W_ic rfl (by unfold jw_rg; omega) (by unfold jw_rg; omega) (fun hc2 => ?_) (fun hc2 => ?_)
    · exact absurd hc2 (show ¬ ((1 : Int) ≥ 3) by omega)
    · clear hc2
      refine jw_W_n 1 (i' := 15) (ls' := [some (.inr (.inr o)), some (.inl 1)]) (st' := [.inr (.inr o)]) rfl ?_
      refine jw_W_gf rfl hpo.2.1 rfl ?_
      show jw_W (js_S n) _ md_67 16 [some (.inr (.inr o)), some (.inl 1)] [.inr (.inr (o + 5))] ((jw_up (jw_up (jw_up (jw_up σ o 0 1) o 1 0) o 2 0) (o + 5) 0 9)) _
      refine jw_W_n 2 (i' := 18) (ls' := [some (.inr (.inr o)), some (.inl 1)]) (st' := [.inl 9, .inl 1, .inr (.inr (o + 5))]) rfl ?_
      refine jw_W_is rfl (by omega) hpo.2.2.2.2.2.2 (by omega) (by omega) (by omega) ?_
      refine jw_W_n 4 (i' := 13) (ls' := [some (.inr (.inr o)), some (.inl 2)]) (st' := [.inl 3, .inl 2]) rfl ?_
      refine jw_W_ic rfl (by unfold jw_rg; omega) (by unfold jw_rg; omega) (fun hc3 => ?_) (fun hc3 => ?_)
      · exact absurd hc3 (show ¬ ((2 : Int) ≥ 3) by omega)
      · clear hc3
        refine jw_W_n 1 (i' := 15) (ls' := [some (.inr (.inr o)), some (.inl 2)]) (st' := [.inr (.inr o)]) rfl ?_
        refine jw_W_gf rfl hpo.2.1 rfl ?_
        show jw_W (js_S n) _ md_67 16 [some (.inr (.inr o)), some (.inl 2)] [.inr (.inr (o + 5))] ((jw_up (jw_up (jw_up (jw_up (jw_up σ o 0 1) o 1 0) o 2 0) (o + 5) 0 9) (o + 5) 1 9)) _
        refine jw_W_n 2 (i' := 18) (ls' := [some (.inr (.inr o)), some (.inl 2)]) (st' := [.inl 9, .inl 2, .inr (.inr (o + 5))]) rfl ?_
        refine jw_W_is rfl (by omega) hpo.2.2.2.2.2.2 (by omega) (by omega) (by omega) ?_
        refine jw_W_n 4 (i' := 13) (ls' := [some (.inr (.inr o)), some (.inl 3)]) (st' := [.inl 3, .inl 3]) rfl ?_
        refine jw_W_ic rfl (by unfold jw_rg; omega) (by unfold jw_rg; omega) (fun hc4 => ?_) (fun hc4 => ?_)
        · clear hc4
          refine jw_W_re rfl ?_
          have hc : ∀ c, c ≠ o → c ≠ o + 5 → (jw_up (jw_up (jw_up (jw_up (jw_up (jw_up σ o 0 1) o 1 0) o 2 0) (o + 5) 0 9) (o + 5) 1 9) (o + 5) 2 9) c = σ c := fun c h1 h2 => by rw [jw_up_out _ _ _ h2, jw_up_out _ _ _ h2, jw_up_out _ _ _ h2, jw_up_out _ _ _ h1, jw_up_out _ _ _ h1, jw_up_out _ _ _ h1]
          refine ⟨rfl, ?_, ?_, ?_, ?_, hc⟩
          · rw [jw_up_out _ _ _ (by omega), jw_up_out _ _ _ (by omega), jw_up_out _ _ _ (by omega), jw_up_ne _ (by omega), jw_up_ne _ (by omega)]
            exact jw_up_eq _ _ _ _
          · rw [jw_up_out _ _ _ (by omega), jw_up_out _ _ _ (by omega), jw_up_out _ _ _ (by omega), jw_up_ne _ (by omega)]
            exact jw_up_eq _ _ _ _
          · rw [jw_up_out _ _ _ (by omega), jw_up_out _ _ _ (by omega), jw_up_out _ _ _ (by omega)]
            exact jw_up_eq _ _ _ _
          · intro j j0 j1
            rcases (show j = 0 ∨ j = 1 ∨ j = 2 by omega) with rfl | rfl | rfl
            · rw [jw_up_ne _ (by omega), jw_up_ne _ (by omega)]
              exact jw_up_eq _ _ _ _
            · rw [jw_up_ne _ (by omega)]
              exact jw_up_eq _ _ _ _
            · exact jw_up_eq _ _ _ _
        · exact absurd hc4 (show ¬ ¬ ((3 : Int) ≥ 3) by omega)
section JKG
variable {b : Int → Int} {m i sg fi : Int} {s : jw_H}
theorem jk_h_lt (h : jk_h b m i ≠ -1) : i < m := Classical.byContradiction (fun w => h (jk_h_out (by omega)))
theorem jk_nu_gt (i0 : 0 ≤ i) (h : (jk_nu b m i).1 = 0) : i < (jk_nu b m i).2.2 ∧ (jk_nu b m i).2.2 ≤ m := by
  have k : (jk_n2 b m i).1 = 0 → i < (jk_n2 b m i).2.2 ∧ (jk_n2 b m i).2.2 ≤ m := by
    intro hn
    by_cases h1 : jk_dg (jk_h b m i)
    · have g1 := jk_h_lt (b := b) (m := m) (i := i) (by unfold jk_dg at h1; omega)
      by_cases h2 : jk_dg (jk_h b m (i + 1))
      · have g2 := jk_h_lt (b := b) (m := m) (i := i + 1) (by unfold jk_dg at h2; omega)
        rw [jk_n2_c h1 h2]
        show i < i + 2 ∧ i + 2 ≤ m
        omega
      · rw [jk_n2_b h1 h2]
        show i < i + 1 ∧ i + 1 ≤ m
        omega
    · rw [jk_n2_a h1] at hn
      have hn2 : -1000 * 1 - i = 0 := hn
      omega
  by_cases h1 : (jk_n2 b m i).1 = 0
  · by_cases h2 : jk_dg (jk_h b m (jk_n2 b m i).2.2)
    · rw [jk_nu_2 h1 h2] at h
      have := k h1
      have h3 : -1000 * 2 - (jk_n2 b m i).2.2 = 0 := h
      omega
    · rw [jk_nu_3 h2]
      exact k h1
  · rw [jk_nu_1 h1] at h
    exact absurd h h1
theorem jk_po_gt (i0 : 0 ≤ i) (h : jk_po b m s i 0 0 = 0) : i < jk_po b m s i 0 1 ∧ jk_po b m s i 0 1 ≤ m := by
  by_cases h1 : 49 ≤ jk_h b m i ∧ jk_h b m i ≤ 51
  · have g1 := jk_h_lt (b := b) (m := m) (i := i) (by omega)
    rw [jk_po_2 h1]
    show i < i + 1 ∧ i + 1 ≤ m
    omega
  · rw [jk_po_1 h1] at h
    have h3 : -1000 * 1 - i = 0 := h
    omega
theorem jk_pw_gt (i0 : 0 ≤ i) (h : jk_pw b m sg s i 0 0 = 0) : i < jk_pw b m sg s i 0 1 ∧ jk_pw b m sg s i 0 1 ≤ m := by
  by_cases h1 : (jk_sm b m (s 0 2) i).1 = 0
  · rw [jk_pw_2 h1]
    exact (jk_rok_sm i0 h1).1
  · rw [jk_pw_1 h1] at h
    exact absurd h h1
theorem jk_pk_gt (i0 : 0 ≤ i) (h : jk_pk b m s i 0 0 = 0) : i < jk_pk b m s i 0 1 ∧ jk_pk b m s i 0 1 ≤ m := by
  by_cases h1 : (jk_sm b m (s 0 2) i).1 = 0
  · have g1 := (jk_rok_sm i0 h1).1
    by_cases h2 : jk_h b m (jk_sm b m (s 0 2) i).2.1 = 60 ∨ jk_h b m (jk_sm b m (s 0 2) i).2.1 = 62
    · by_cases h3 : (jk_nu b m ((jk_sm b m (s 0 2) i).2.1 + 1)).1 = 0
      · have g3 := jk_nu_gt (by omega) h3
        rw [jk_pk_4 h1 h2 h3]
        show i < (jk_nu b m ((jk_sm b m (s 0 2) i).2.1 + 1)).2.2 ∧ (jk_nu b m ((jk_sm b m (s 0 2) i).2.1 + 1)).2.2 ≤ m
        omega
      · rw [jk_pk_3 h1 h2 h3] at h
        exact absurd h h3
    · rw [jk_pk_2 h1 h2] at h
      have h3 : -1000 * 1 - (jk_sm b m (s 0 2) i).2.1 = 0 := h
      omega
  · rw [jk_pk_1 h1] at h
    exact absurd h h1
theorem jk_pbx_gt (i0 : 0 ≤ i) (h : jk_pbx b m s i 0 0 = 0) : i < jk_pbx b m s i 0 1 ∧ jk_pbx b m s i 0 1 ≤ m := by
  by_cases h1 : jk_let (jk_h b m i)
  · by_cases h2 : jk_h b m i - 120 < s 0 2
    · by_cases h3 : jw_and (s 0 5) (jw_shl 1 (jk_h b m i - 120)) = 0
      · by_cases h4 : jk_h b m (i + 1) = 60
        · by_cases h5 : (jk_nu b m (i + 2)).1 = 0
          · by_cases h6 : 1 ≤ (jk_nu b m (i + 2)).2.1 ∧ (jk_nu b m (i + 2)).2.1 ≤ 9
            · have g3 := jk_nu_gt (by omega) h5
              rw [jk_pbx_7 h1 h2 h3 h4 h5 h6]
              show i < (jk_nu b m (i + 2)).2.2 ∧ (jk_nu b m (i + 2)).2.2 ≤ m
              omega
            · rw [jk_pbx_6 h1 h2 h3 h4 h5 h6] at h
              have h7 : -1000 * 3 - (i + 2) = 0 := h
              omega
          · rw [jk_pbx_5 h1 h2 h3 h4 h5] at h
            exact absurd h h5
        · rw [jk_pbx_4 h1 h2 h3 h4] at h
          have h7 : -1000 * 1 - (i + 1) = 0 := h
          omega
      · rw [jk_pbx_3 h1 h2 h3] at h
        have h7 : -1000 * 6 - i = 0 := h
        omega
    · rw [jk_pbx_2 h1 h2] at h
      have h7 : -1000 * 7 - i = 0 := h
      omega
  · rw [jk_pbx_1 h1] at h
    have h7 : -1000 * 1 - i = 0 := h
    omega
theorem jk_pl_gt (i0 : 0 ≤ i) (im : i ≤ m) (h : jk_pl b m fi s i 0 0 = 0) : i < jk_pl b m fi s i 0 1 ∧ jk_pl b m fi s i 0 1 ≤ m := by
  obtain ⟨e, he⟩ : ∃ e, jk_we b m 300 i = e := ⟨_, rfl⟩
  obtain ⟨c, hc⟩ : ∃ c, jk_wk b i e = c := ⟨_, rfl⟩
  have hw := jk_we_in (b := b) (m := m) (fun i hi => jk_h_out hi) 300 im
  rw [he] at hw
  by_cases h1 : c = 0 ∨ ¬ (c = 1 ↔ fi = 1)
  · rw [jk_pl_1 he hc h1] at h
    have h7 : -1000 * 1 - i = 0 := h
    omega
  by_cases h2 : ((c = 2 ∨ c = 3) ∧ 3 ≤ s 0 3) ∨ (c = 4 ∧ 4 ≤ s 0 4)
  · rw [jk_pl_2 he hc h1 h2] at h
    have h7 : -1000 * 4 - i = 0 := h
    omega
  by_cases h3 : jk_h b m e = 58
  · rw [jk_pl_4 he hc h1 h2 h3] at h ⊢
    by_cases c1 : c = 1
    · rw [if_pos c1] at h ⊢
      have := jk_po_gt (by omega) h
      omega
    rw [if_neg c1] at h ⊢
    by_cases c2 : c = 4
    · rw [if_pos c2] at h ⊢
      have := jk_pk_gt (by omega) h
      omega
    rw [if_neg c2] at h ⊢
    by_cases c3 : c = 5
    · rw [if_pos c3] at h ⊢
      have := jk_pbx_gt (by omega) h
      omega
    rw [if_neg c3] at h ⊢
    have := jk_pw_gt (by omega) h
    omega
  · rw [jk_pl_3 he hc h1 h2 h3] at h
    have h7 : -1000 * 1 - e = 0 := h
    omega
end JKG
theorem jk_pl_at (b : Int → Int) (m fi : Int) (s : jw_H) (i j : Int) : jk_pl b m fi (jk_at s i) j = jk_pl b m fi s j := rfl
theorem jk_read_loop {n : Nat} {σ : jw_H} {o : Nat} {b : Int → Int} {k m : Int} (hkm : m ≤ k) (hk : k ≤ 260) : ∀ (f : Nat) {s τ : jw_H} {l : Int}, jk_X n o b m τ → jk_D o σ τ → jk_rs o τ s → (s 0 0 = 0 → m < s 0 1 + f) → 1 ≤ l → l ≤ 261 → (s 0 0 = 0 → l ≤ s 0 1) → jw_W (js_S n) 7 md_80 19 [some (.inr (.inr 33)), some (.inr (.inr 14)), some (.inl k), some (.inr (.inr o)), some (.inl l)] [] τ (fun r σ' => r = some (.inl (σ' 34 2)) ∧ jk_X n o b m σ' ∧ jk_D o σ σ' ∧ jk_rs o σ' (jk_pr b m f s))
  | f, s, τ, l, hX, hD, hrs, hfu, l1, l9, hl => by
    have hpo := hX.1
    have hp0 := hpo.1
    have hob : 15 ≤ o ∧ o ≤ 27 := by omega
    have em := hX.2.2.2.1
    have h4 := hX.2.2.2.2.1
    have h5 := hX.2.2.2.2.2.1
    have h6 := hX.2.2.2.2.2.2.1
    have h11 := hrs.1
    have hat : s 0 0 = 0 → τ 34 0 = s 0 1 := fun hz => (hrs.2 hz).2.2.1
    have stop : ¬ (l ≤ k ∧ τ 34 2 = 0 ∧ τ 34 0 < τ 34 1) → some (Sum.inl (τ 34 2)) = some (Sum.inl (τ 34 2) : jw_V) ∧ jk_X n o b m τ ∧ jk_D o σ τ ∧ jk_rs o τ (jk_pr b m f s) := by
      intro hn
      rw [jk_pr_no (fun hh => hn ?_) f]
      · exact ⟨rfl, hX, hD, hrs⟩
      · have h1 := hat hh.1
        have h2 := hl hh.1
        omega
    have go : ∀ {σ1 σ2 : jw_H}, jk_X n o b m σ2 → jk_D o τ σ2 → τ 34 2 = 0 → τ 34 0 < τ 34 1 → ((jk_h b m (τ 34 0) = 59 ∧ σ1 34 2 = τ 34 2 ∧ σ1 34 0 = τ 34 0 + 1) ∨ (jk_h b m (τ 34 0) ≠ 59 ∧ (τ 34 2 = 0 → σ1 34 2 = -1000 * 1 - τ 34 0))) → jk_D o σ1 σ2 → (σ1 34 2 = 0 → jk_rs o σ2 (jk_pl b m 0 (jk_at s (τ 34 0 + 1)) (σ1 34 0))) → jw_W (js_S n) 7 md_80 19 [some (.inr (.inr 33)), some (.inr (.inr 14)), some (.inl k), some (.inr (.inr o)), some (.inl (l + 1))] [] σ2 (fun r σ' => r = some (.inl (σ' 34 2)) ∧ jk_X n o b m σ' ∧ jk_D o σ σ' ∧ jk_rs o σ' (jk_pr b m f s)) := by
      intro σ1 σ2 hX2 hDD hz hlt h12 hD12 h22
      have hz1 : s 0 0 = 0 := by rw [← h11]; exact hz
      have hat1 := hat hz1
      have hl1 := hl hz1
      have hf1 := hfu hz1
      match f, hf1 with
      | 0, hf1 => omega
      | f + 1, hf1 =>
        rcases h12 with ⟨u1, u2, u3⟩ | ⟨u1, u2⟩
        · have h23 := h22 (u2.trans hz)
          rw [u3, jk_pl_at, hat1] at h23
          rw [jk_pr_go ⟨hz1, by omega⟩ (by rw [← hat1]; exact u1) f]
          have hm := hD12.2.2.2
          refine jk_read_loop hkm hk f hX2 (jk_D_tr hD hDD) h23 (fun h => ?_) (by omega) (by omega) (fun h => ?_)
          · have := (h23.2 h).2.2.1
            omega
          · have := (h23.2 h).2.2.1
            omega
        · have e := hD12.2.2.1 (by rw [u2 hz]; omega)
          rw [u2 hz, hat1] at e
          rw [jk_pr_bad ⟨hz1, by omega⟩ (by rw [← hat1]; exact u1) f]
          have hF : -1000 * 1 - s 0 1 ≠ 0 := by omega
          have hw := jk_read_loop hkm hk f hX2 (jk_D_tr hD hDD) (jk_rs_bad e hF) (fun h => absurd h hF) (l := l + 1) (by omega) (by omega) (fun h => absurd h hF)
          rw [jk_pr_no (fun hh => absurd hh.1 hF) f] at hw
          exact hw
    refine jw_W_n 2 (i' := 21) (ls' := [some (.inr (.inr 33)), some (.inr (.inr 14)), some (.inl k), some (.inr (.inr o)), some (.inl l)]) (st' := [.inl k, .inl l]) rfl ?_
    refine jw_W_ic rfl (by unfold jw_rg; omega) (by unfold jw_rg; omega) (fun hc1 => ?_) (fun hc1 => ?_)
    · have hc1 : l > k := hc1
      refine jw_W_n 1 (i' := 43) (ls' := [some (.inr (.inr 33)), some (.inr (.inr 14)), some (.inl k), some (.inr (.inr o)), some (.inl l)]) (st' := [.inr (.inr 33)]) rfl ?_
      refine jw_W_gf rfl rfl rfl ?_
      show jw_W (js_S n) _ md_80 44 [some (.inr (.inr 33)), some (.inr (.inr 14)), some (.inl k), some (.inr (.inr o)), some (.inl l)] [.inr (.inr 34)] τ _
      refine jw_W_gf rfl rfl rfl ?_
      show jw_W (js_S n) _ md_80 45 [some (.inr (.inr 33)), some (.inr (.inr 14)), some (.inl k), some (.inr (.inr o)), some (.inl l)] [.inl (τ 34 2)] τ _
      refine jw_W_ir rfl ?_
      exact stop (by omega)
    · have hc1 : ¬ (l > k) := hc1
      refine jw_W_n 1 (i' := 23) (ls' := [some (.inr (.inr 33)), some (.inr (.inr 14)), some (.inl k), some (.inr (.inr o)), some (.inl l)]) (st' := [.inr (.inr 33)]) rfl ?_
      refine jw_W_gf rfl rfl rfl ?_
      show jw_W (js_S n) _ md_80 24 [some (.inr (.inr 33)), some (.inr (.inr 14)), some (.inl k), some (.inr (.inr o)), some (.inl l)] [.inr (.inr 34)] τ _
      refine jw_W_gf rfl rfl rfl ?_
      show jw_W (js_S n) _ md_80 25 [some (.inr (.inr 33)), some (.inr (.inr 14)), some (.inl k), some (.inr (.inr o)), some (.inl l)] [.inl (τ 34 2)] τ _
      refine jw_W_if rfl (by unfold jw_rg; omega) (fun hc2 => ?_) (fun hc2 => ?_)
      · have hc2 : (τ 34 2) ≠ 0 := hc2
        refine jw_W_n 1 (i' := 43) (ls' := [some (.inr (.inr 33)), some (.inr (.inr 14)), some (.inl k), some (.inr (.inr o)), some (.inl l)]) (st' := [.inr (.inr 33)]) rfl ?_
        refine jw_W_gf rfl rfl rfl ?_
        show jw_W (js_S n) _ md_80 44 [some (.inr (.inr 33)), some (.inr (.inr 14)), some (.inl k), some (.inr (.inr o)), some (.inl l)] [.inr (.inr 34)] τ _
        refine jw_W_gf rfl rfl rfl ?_
        show jw_W (js_S n) _ md_80 45 [some (.inr (.inr 33)), some (.inr (.inr 14)), some (.inl k), some (.inr (.inr o)), some (.inl l)] [.inl (τ 34 2)] τ _
        refine jw_W_ir rfl ?_
        exact stop (by omega)
      · have hc2 : (τ 34 2) = 0 := Classical.not_not.mp hc2
        have hz : τ 34 2 = 0 := by omega
        have hrl := hrs.2 (by rw [← hrs.1]; exact hz)
        refine jw_W_n 1 (i' := 27) (ls' := [some (.inr (.inr 33)), some (.inr (.inr 14)), some (.inl k), some (.inr (.inr o)), some (.inl l)]) (st' := [.inr (.inr 33)]) rfl ?_
        refine jw_W_gf rfl rfl rfl ?_
        show jw_W (js_S n) _ md_80 28 [some (.inr (.inr 33)), some (.inr (.inr 14)), some (.inl k), some (.inr (.inr o)), some (.inl l)] [.inr (.inr 34)] τ _
        refine jw_W_gf rfl rfl rfl ?_
        show jw_W (js_S n) _ md_80 29 [some (.inr (.inr 33)), some (.inr (.inr 14)), some (.inl k), some (.inr (.inr o)), some (.inl l)] [.inl (τ 34 0)] τ _
        refine jw_W_n 1 (i' := 30) (ls' := [some (.inr (.inr 33)), some (.inr (.inr 14)), some (.inl k), some (.inr (.inr o)), some (.inl l)]) (st' := [.inr (.inr 33), .inl (τ 34 0)]) rfl ?_
        refine jw_W_gf rfl rfl rfl ?_
        show jw_W (js_S n) _ md_80 31 [some (.inr (.inr 33)), some (.inr (.inr 14)), some (.inl k), some (.inr (.inr o)), some (.inl l)] [.inr (.inr 34), .inl (τ 34 0)] τ _
        refine jw_W_gf rfl rfl rfl ?_
        show jw_W (js_S n) _ md_80 32 [some (.inr (.inr 33)), some (.inr (.inr 14)), some (.inl k), some (.inr (.inr o)), some (.inl l)] [.inl (τ 34 1), .inl (τ 34 0)] τ _
        refine jw_W_ic rfl (by unfold jw_rg; omega) (by unfold jw_rg; omega) (fun hc3 => ?_) (fun hc3 => ?_)
        · have hc3 : (τ 34 0) ≥ (τ 34 1) := hc3
          refine jw_W_n 1 (i' := 43) (ls' := [some (.inr (.inr 33)), some (.inr (.inr 14)), some (.inl k), some (.inr (.inr o)), some (.inl l)]) (st' := [.inr (.inr 33)]) rfl ?_
          refine jw_W_gf rfl rfl rfl ?_
          show jw_W (js_S n) _ md_80 44 [some (.inr (.inr 33)), some (.inr (.inr 14)), some (.inl k), some (.inr (.inr o)), some (.inl l)] [.inr (.inr 34)] τ _
          refine jw_W_gf rfl rfl rfl ?_
          show jw_W (js_S n) _ md_80 45 [some (.inr (.inr 33)), some (.inr (.inr 14)), some (.inl k), some (.inr (.inr o)), some (.inl l)] [.inl (τ 34 2)] τ _
          refine jw_W_ir rfl ?_
          exact stop (by omega)
        · have hc3 : ¬ ((τ 34 0) ≥ (τ 34 1)) := hc3
          refine jw_W_n 1 (i' := 34) (ls' := [some (.inr (.inr 33)), some (.inr (.inr 14)), some (.inl k), some (.inr (.inr o)), some (.inl l)]) (st' := [.inr (.inr 33)]) rfl ?_
          refine jw_W_gf rfl rfl rfl ?_
          show jw_W (js_S n) _ md_80 35 [some (.inr (.inr 33)), some (.inr (.inr 14)), some (.inl k), some (.inr (.inr o)), some (.inl l)] [.inr (.inr 34)] τ _
          refine jw_W_n 1 (i' := 36) (ls' := [some (.inr (.inr 33)), some (.inr (.inr 14)), some (.inl k), some (.inr (.inr o)), some (.inl l)]) (st' := [.inl 59, .inr (.inr 34)]) rfl ?_
          refine jw_W_call (as := [.inr (.inr 34), .inl 59]) (rest := []) rfl rfl rfl rfl (Nat.le_of_ble_eq_true rfl) (.inr rfl) (jk_expectX hX (x := 59) (by omega)) (by omega) ?_ rfl
          rintro r1 σ1 ⟨rfl, hE1, h12⟩
          rename jw_H => σ1
          have hX1 := hE1.1
          show jw_W (js_S n) _ md_80 37 [some (.inr (.inr 33)), some (.inr (.inr 14)), some (.inl k), some (.inr (.inr o)), some (.inl l)] [] σ1 _
          refine jw_W_n 2 (i' := 39) (ls' := [some (.inr (.inr 33)), some (.inr (.inr 14)), some (.inl k), some (.inr (.inr o)), some (.inl l)]) (st' := [.inl 0, .inr (.inr 33)]) rfl ?_
          refine jw_W_call (as := [.inr (.inr 33), .inl 0]) (rest := []) rfl rfl rfl rfl (Nat.le_of_ble_eq_true rfl) (.inr rfl) (jk_readLine hX1 (s := jk_at s (τ 34 0 + 1)) (fun hz1 => jk_rl_at hrl hp0 hE1.2.2 hz1 (by rcases h12 with ⟨-, -, u⟩ | ⟨-, u⟩; exact u; exact absurd hz1 (by rw [u hz]; omega))) (fi := 0) (by omega)) (by omega) ?_ rfl
          rintro r1 σ2 ⟨rfl, hX2, hD2, h22⟩
          rename jw_H => σ2
          show jw_W (js_S n) _ md_80 40 [some (.inr (.inr 33)), some (.inr (.inr 14)), some (.inl k), some (.inr (.inr o)), some (.inl l)] [] σ2 _
          refine jw_W_n 2 (i' := 19) (ls' := [some (.inr (.inr 33)), some (.inr (.inr 14)), some (.inl k), some (.inr (.inr o)), some (.inl (l + 1))]) (st' := []) rfl ?_
          exact go hX2 (jk_D_tr hE1.2.1 hD2) hz (by omega) h12 hD2 h22
theorem jk_read {n : Nat} {σ : jw_H} {o : Nat} (hpo : jx_po n o) {b : Int → Int} {k : Int} (hk : 0 ≤ k ∧ k ≤ 260) (hst : jk_st σ) (hb : ∀ j, 0 ≤ j → j < k → σ 14 j = b j ∧ 0 ≤ b j ∧ b j ≤ 255)  : jw_T (js_S n) 8 80 [.inr (.inr 33), .inr (.inr 14), .inl k, .inr (.inr o)] σ (fun r σ' => r = some (.inl (σ' 34 2)) ∧ jk_X n o b k σ' ∧ (∀ c, c ≠ 33 → c ≠ 34 → (c < o ∨ o + 5 < c) → σ' c = σ c) ∧ jk_rs o σ' (jk_ptx b k)) := by
  refine jw_T_of (D := 7) (M := mm_80) rfl (Nat.le_of_ble_eq_true rfl) (ls0 := [some (.inr (.inr 33)), some (.inr (.inr 14)), some (.inl k), some (.inr (.inr o)), none]) rfl ?_ (by rintro _ _ ⟨rfl, -⟩; rfl)
  have hp0 := hpo.1
  have hob : 15 ≤ o ∧ o ≤ 27 := by omega
  refine jw_W_n 1 (i' := 1) (ls' := [some (.inr (.inr 33)), some (.inr (.inr 14)), some (.inl k), some (.inr (.inr o)), none]) (st' := [.inr (.inr 33)]) rfl ?_
  refine jw_W_gf rfl rfl rfl ?_
  show jw_W (js_S n) _ md_80 2 [some (.inr (.inr 33)), some (.inr (.inr 14)), some (.inl k), some (.inr (.inr o)), none] [.inr (.inr 34)] σ _
  refine jw_W_n 2 (i' := 4) (ls' := [some (.inr (.inr 33)), some (.inr (.inr 14)), some (.inl k), some (.inr (.inr o)), none]) (st' := [.inl k, .inr (.inr 14), .inr (.inr 34)]) rfl ?_
  refine jw_W_call (as := [.inr (.inr 34), .inr (.inr 14), .inl k]) (rest := []) rfl rfl rfl rfl (Nat.le_of_ble_eq_true rfl) (.inr rfl) (jk_begin hk) (by omega) ?_ rfl
  rintro r1 σ1 ⟨rfl, b3, b1, b0, b2, bc⟩
  rename jw_H => σ1
  show jw_W (js_S n) _ md_80 5 [some (.inr (.inr 33)), some (.inr (.inr 14)), some (.inl k), some (.inr (.inr o)), none] [] σ1 _
  refine jw_W_n 2 (i' := 7) (ls' := [some (.inr (.inr 33)), some (.inr (.inr 14)), some (.inl k), some (.inr (.inr o)), none]) (st' := [.inl 0, .inr (.inr 33)]) rfl ?_
  refine jw_W_pf (a := 0) rfl (by omega) rfl rfl rfl rfl rfl ?_
  refine jw_W_n 2 (i' := 10) (ls' := [some (.inr (.inr 33)), some (.inr (.inr 14)), some (.inl k), some (.inr (.inr o)), none]) (st' := [.inr (.inr o), .inr (.inr 33)]) rfl ?_
  refine jw_W_pf (a := o) rfl (by omega) rfl rfl rfl rfl rfl ?_
  obtain ⟨σ2, hs2⟩ : ∃ s, s = jw_up (jw_up σ1 33 1 0) 33 2 o := ⟨_, rfl⟩
  show jw_W (js_S n) _ _ _ _ _ (jw_up (jw_up σ1 33 1 0) 33 2 o) _
  rw [← hs2]
  have hto2 : (σ2 33 2).toNat = o := by rw [hs2, jw_up_eq]; rfl
  have c2 : ∀ c, c ≠ 33 → σ2 c = σ1 c := fun c hc => by rw [hs2, jw_up_out _ _ _ hc, jw_up_out _ _ _ hc]
  refine jw_W_n 1 (i' := 12) (ls' := [some (.inr (.inr 33)), some (.inr (.inr 14)), some (.inl k), some (.inr (.inr o)), none]) (st' := [.inr (.inr 33)]) rfl ?_
  refine jw_W_gf rfl rfl rfl ?_
  show jw_W (js_S n) _ md_80 13 [some (.inr (.inr 33)), some (.inr (.inr 14)), some (.inl k), some (.inr (.inr o)), none] [.inr (.inr ((σ2 33 2).toNat))] σ2 _
  rw [hto2]
  refine jw_W_call (as := [.inr (.inr o)]) (rest := []) rfl rfl rfl rfl (Nat.le_of_ble_eq_true rfl) (.inr (jx_rc hpo.2.1)) (jk_clear hpo) (by omega) ?_ rfl
  rintro r1 σ3 ⟨rfl, q0, q1, q2, q5, qc⟩
  rename jw_H => σ3
  have c3 : ∀ c, c ≠ 33 → c ≠ 34 → (c < o ∨ o + 5 < c) → σ3 c = σ c := fun c d1 d2 d3 => by rw [qc c (by omega) (by omega), c2 c d1, bc c d2]
  have e34 : σ3 34 = σ1 34 := by rw [qc 34 (by omega) (by omega), c2 34 (by omega)]
  have e332 : (σ3 33 2).toNat = o := by rw [qc 33 (by omega) (by omega)]; exact hto2
  have e331 : σ3 33 1 = 0 := by rw [qc 33 (by omega) (by omega), hs2, jw_up_ne _ (by omega), jw_up_eq]
  have hX3 : jk_X n o b k σ3 := by
    refine ⟨hpo, e332, ?_, by rw [e34]; exact b1, by rw [e34, b0]; omega, by omega, by rw [e34, b2]; omega, by omega, by omega, by omega, by omega, jk_st_fr hst (fun c hc => c3 c (by omega) (by omega) (by omega))⟩
    unfold jk_tx
    rw [e34, b3, b0, b1, c3 14 (by omega) (by omega) (by omega)]
    exact ⟨rfl, by omega, by omega, hb⟩
  have hr3 : jk_rl o σ3 jk_s0 := ⟨by rw [e34]; exact b2, rfl, by rw [e34, b0]; rfl, q0, q1, q2, e331, fun j j0 j1 => absurd (show j < 3 * 0 from j1) (by omega), fun j j0 j1 => absurd (show j < 3 * 0 from j1) (by omega), fun j j0 j1 => absurd (show j < 0 from j1) (by omega), fun j j0 j1 => q5 j j0 j1⟩
  show jw_W (js_S n) _ md_80 14 [some (.inr (.inr 33)), some (.inr (.inr 14)), some (.inl k), some (.inr (.inr o)), none] [] σ3 _
  refine jw_W_n 2 (i' := 16) (ls' := [some (.inr (.inr 33)), some (.inr (.inr 14)), some (.inl k), some (.inr (.inr o)), none]) (st' := [.inl 1, .inr (.inr 33)]) rfl ?_
  refine jw_W_call (as := [.inr (.inr 33), .inl 1]) (rest := []) rfl rfl rfl rfl (Nat.le_of_ble_eq_true rfl) (.inr rfl) (jk_readLine hX3 (s := jk_s0) (fun _ => hr3) (fi := 1) (by omega)) (by omega) ?_ rfl
  rintro r1 σ4 ⟨rfl, hX4, hD4, h42⟩
  rename jw_H => σ4
  have h43 := h42 (by rw [e34]; exact b2)
  rw [show σ3 34 0 = 0 by rw [e34]; exact b0] at h43
  have hgt := jk_pl_gt (b := b) (m := k) (fi := 1) (s := jk_s0) (i := 0) (by omega) (by omega)
  show jw_W (js_S n) _ md_80 17 [some (.inr (.inr 33)), some (.inr (.inr 14)), some (.inl k), some (.inr (.inr o)), none] [] σ4 _
  refine jw_W_n 2 (i' := 19) (ls' := [some (.inr (.inr 33)), some (.inr (.inr 14)), some (.inl k), some (.inr (.inr o)), some (.inl 1)]) (st' := []) rfl ?_
  have hw := jk_read_loop (n := n) (σ := σ3) (o := o) (b := b) (k := k) (m := k) (Int.le_refl _) (by omega) 300 hX4 hD4 h43 (fun h => by have := hgt h; omega) (l := 1) (by omega) (by omega) (fun h => by have := hgt h; omega)
  exact jw_W_mono hw (fun r σ' hh => ⟨hh.1, hh.2.1, fun c d1 d2 d3 => (hh.2.2.1.1 c d1 d2 d3).trans (c3 c d1 d2 d3), hh.2.2.2⟩)

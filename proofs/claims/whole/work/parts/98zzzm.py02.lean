/-! ===== a line, the reference ===== -/
theorem jk_ml_at0 {b : Int → Int} {m q : Int} {σ τ s : jw_H} {i : Int} (hl : jk_ml σ s) (hm : jk_my b m σ q) (hf : ∀ c, c ≠ 103 → τ c = σ c) (hj : ∀ j, j ≠ 8 → j ≠ 38 → j ≠ 39 → τ 103 j = σ 103 j) (h8 : τ 103 8 = i) (hi : 0 ≤ i ∧ i ≤ m) : jk_ml τ (jk_at s i) ∧ jk_my b m τ q := by
  obtain ⟨l0, l8, l34, l35, l36, l37, lW, lK, lB⟩ := hl
  obtain ⟨ht, em, h8', h34, h35, h36, h37⟩ := hm
  have e9 := hj 9 (by omega) (by omega) (by omega)
  have e34 := hj 34 (by omega) (by omega) (by omega)
  have e35 := hj 35 (by omega) (by omega) (by omega)
  have e36 := hj 36 (by omega) (by omega) (by omega)
  have e37 := hj 37 (by omega) (by omega) (by omega)
  refine ⟨?_, ?_, by omega, by omega, by omega, by omega, by omega, by omega⟩
  · unfold jk_ml
    rw [hf 121 (by omega), hf 122 (by omega), hf 123 (by omega)]
    exact ⟨l0, h8, e34.trans l34, e35.trans l35, e36.trans l36, e37.trans l37, lW, lK, lB⟩
  · obtain ⟨t1, t2, t3⟩ := ht
    unfold jk_tr
    rw [e9, hf 107 (by omega)]
    exact ⟨by omega, t2, t3⟩
theorem jk_ml_at {b : Int → Int} {m : Int} {σ τ s : jw_H} {i : Int} (hl : jk_ml σ s) (hm : jk_mx b m σ) (hf : ∀ c, c ≠ 103 → τ c = σ c) (hj : ∀ j, j ≠ 8 → j ≠ 38 → j ≠ 39 → τ 103 j = σ 103 j) (h8 : τ 103 8 = i) (hi : 0 ≤ i ∧ i ≤ m) : jk_ml τ (jk_at s i) ∧ jk_mx b m τ := by
  have h := jk_ml_at0 hl hm hf hj h8 hi
  refine ⟨h.1, ?_⟩
  unfold jk_mx
  rw [hj 34 (by omega) (by omega) (by omega)]
  exact h.2
theorem jk_wk_of {b : Int → Int} {i e H : Int} (h0 : i ≤ e) (hl : ∀ j, i ≤ j → j < e → 97 ≤ b j ∧ b j ≤ 122) (hq : jk_hq b i e H) : (H = 486 ↔ jk_wk b i e = 1) ∧ (H = 763496 ↔ jk_wk b i e = 2) ∧ (H = 12748404 ↔ jk_wk b i e = 3) ∧ (H = 365744 ↔ jk_wk b i e = 4) ∧ (H = 2552 ↔ jk_wk b i e = 5) ∧ -1 ≤ H ∧ H ≤ 40000000 := by
  obtain ⟨r1, r2, k1, k2, k3, k4, k5⟩ := jk_hash h0 hl hq
  have e1 : jk_wk b i e = 1 ↔ jk_isw b i e 2 jk_w3 := by
    unfold jk_wk
    constructor
    · intro h
      by_cases c : jk_isw b i e 2 jk_w3
      · exact c
      · rw [if_neg c] at h
        exfalso
        revert h
        repeat' split
        all_goals omega
    · intro c
      rw [if_pos c]
  have n1 : ¬ jk_isw b i e 2 jk_w3 → jk_wk b i e = @ite Int (jk_isw b i e 4 jk_w5) (Classical.propDecidable _) 2 (@ite Int (jk_isw b i e 5 jk_w7) (Classical.propDecidable _) 3 (@ite Int (jk_isw b i e 4 jk_w9) (Classical.propDecidable _) 4 (@ite Int (jk_isw b i e 3 jk_w11) (Classical.propDecidable _) 5 0))) := fun c => if_neg c
  by_cases c1 : jk_isw b i e 2 jk_w3
  · have hH := k1.mpr c1
    have hw := e1.mpr c1
    exact ⟨by omega, by omega, by omega, by omega, by omega, r1, r2⟩
  · have hH : H ≠ 486 := fun w => c1 (k1.mp w)
    have hn := n1 c1
    by_cases c2 : jk_isw b i e 4 jk_w5
    · rw [if_pos c2] at hn
      have := k2.mpr c2
      exact ⟨by omega, by omega, by omega, by omega, by omega, r1, r2⟩
    · have hH2 : H ≠ 763496 := fun w => c2 (k2.mp w)
      rw [if_neg c2] at hn
      by_cases c3 : jk_isw b i e 5 jk_w7
      · rw [if_pos c3] at hn
        have := k3.mpr c3
        exact ⟨by omega, by omega, by omega, by omega, by omega, r1, r2⟩
      · have hH3 : H ≠ 12748404 := fun w => c3 (k3.mp w)
        rw [if_neg c3] at hn
        by_cases c4 : jk_isw b i e 4 jk_w9
        · rw [if_pos c4] at hn
          have := k4.mpr c4
          exact ⟨by omega, by omega, by omega, by omega, by omega, r1, r2⟩
        · have hH4 : H ≠ 365744 := fun w => c4 (k4.mp w)
          rw [if_neg c4] at hn
          by_cases c5 : jk_isw b i e 3 jk_w11
          · rw [if_pos c5] at hn
            have := k5.mpr c5
            exact ⟨by omega, by omega, by omega, by omega, by omega, r1, r2⟩
          · have hH5 : H ≠ 2552 := fun w => c5 (k5.mp w)
            rw [if_neg c5] at hn
            exact ⟨by omega, by omega, by omega, by omega, by omega, r1, r2⟩
theorem jk_readsOf {n : Nat} {σ : jw_H} {b : Int → Int} {m : Int} {s : jw_H} (hm : jk_my b m σ 1) (hl : jk_ml σ s) (hw0 : s 0 3 = 0) (hk0 : s 0 4 = 0)  : jw_T (js_S n) 4 223 [.inr (.inr 103)] σ (fun r σ' => jk_mp b m σ (jk_pl b m 1 s (s 0 1)) r σ') := by
  refine jw_T_of (D := 3) (M := mm_223) rfl (Nat.le_of_ble_eq_true rfl) (ls0 := [some (.inr (.inr 103))]) rfl ?_ (by rintro _ _ ⟨-, ⟨rfl, -⟩ | ⟨rfl, -⟩⟩ <;> rfl)
  have hm0 := hm
  obtain ⟨ht, em, h8, h34, h35, h36, h37⟩ := hm
  have hl0 := hl
  obtain ⟨l0, l8, l34, l35, l36, l37, lW, lK, lB⟩ := hl
  refine jw_W_n 1 (i' := 1) (ls' := [some (.inr (.inr 103))]) (st' := [.inr (.inr 103)]) rfl ?_
  refine jw_W_call (as := [.inr (.inr 103)]) (rest := []) rfl rfl rfl rfl (Nat.le_of_ble_eq_true rfl) (.inr rfl) (jk_readsWord ht (by omega)) (by omega) ?_ rfl
  rintro r1 σ1 ⟨rfl, wf, w39, w8, wq, wl, wi, wm⟩
  rename jw_H => σ1
  rw [em, l8] at w8 wq wl wi wm
  rw [l8] at w39
  generalize he : jk_we b m 300 (s 0 1) = e at w8 wq wl wi wm
  have wk := jk_wk_of wi wl wq
  obtain ⟨c, hc⟩ : ∃ c, jk_wk b (s 0 1) e = c := ⟨_, rfl⟩
  rw [hc] at wk
  obtain ⟨k1, k2, k3, k4, k5, hr1, hr2⟩ := wk
  have hc5 := jk_wk_rg b (s 0 1) e
  rw [hc] at hc5
  have fm1 := jk_fm_f3 wf
  have hat := jk_ml_at0 (τ := σ1) (i := e) hl0 hm0 wf.1 (fun j d1 d2 d3 => wf.2 j d1 d2 d3) w8 (by omega)
  have ht1 := hat.2.1
  have em1 : σ1 103 9 = m := (jk_fm9 fm1).trans em
  have e35 := (wf.2 35 (by omega) (by omega) (by omega)).trans l35
  have e36 := (wf.2 36 (by omega) (by omega) (by omega)).trans l36
  show jw_W (js_S n) _ md_223 2 [some (.inr (.inr 103))] [] σ1 _
  refine jw_W_n 1 (i' := 3) (ls' := [some (.inr (.inr 103))]) (st' := [.inr (.inr 103)]) rfl ?_
  refine jw_W_gf rfl rfl rfl ?_
  show jw_W (js_S n) _ md_223 4 [some (.inr (.inr 103))] [.inl (σ1 103 38)] σ1 _
  refine jw_W_n 1 (i' := 5) (ls' := [some (.inr (.inr 103))]) (st' := [.inl 486, .inl (σ1 103 38)]) rfl ?_
  refine jw_W_ic rfl (by unfold jw_rg; omega) (by unfold jw_rg; omega) (fun hc1 => ?_) (fun hc1 => ?_)
  · have hc1 : (σ1 103 38) = 486 := hc1
    refine jw_W_n 2 (i' := 14) (ls' := [some (.inr (.inr 103))]) (st' := [.inl 58, .inr (.inr 103)]) rfl ?_
    refine jw_W_call (as := [.inr (.inr 103), .inl 58]) (rest := []) rfl rfl rfl rfl (Nat.le_of_ble_eq_true rfl) (.inr rfl) (jk_takes ht1 (x := 58) (by unfold jw_rg; omega)) (by omega) ?_ rfl
    rintro r1 σ2 (⟨rfl, h58, hs2⟩ | ⟨rfl, h58, hs2⟩)
    · rename jw_H => σ2
      rw [em1, w8] at h58
      have hz := jk_h_lt (b := b) (m := m) (i := e) (by omega)
      have e28 : σ2 103 8 = e + 1 := by rw [hs2, jw_up_eq, w8]
      have fm2 : jk_fm σ σ2 := by rw [hs2]; exact jk_fm_up fm1 (by omega)
      have hat2 := jk_ml_at0 (τ := σ2) (i := e + 1) hat.1 hat.2 (fun c hc => by rw [hs2, jw_up_out _ _ _ hc]) (fun j d1 d2 d3 => by rw [hs2, jw_up_ne _ (by omega)]) e28 (by omega)
      have ht2 := hat2.2.1
      have em2 := hat2.2.2.1
      show jw_W (js_S n) _ md_223 15 [some (.inr (.inr 103))] [.inl 1] σ2 _
      refine jw_W_if rfl (by unfold jw_rg; omega) (fun hc2 => ?_) (fun hc2 => ?_)
      · clear hc2
        refine jw_W_n 1 (i' := 19) (ls' := [some (.inr (.inr 103))]) (st' := [.inr (.inr 103)]) rfl ?_
        refine jw_W_call (as := [.inr (.inr 103)]) (rest := []) rfl rfl rfl rfl (Nat.le_of_ble_eq_true rfl) (.inr rfl) (jk_hereR ht2) (by omega) ?_ rfl
        rintro r1 σz ⟨rfl, hs⟩
        rw [hs]
        rw [em2, e28]
        have hh2 := jk_h_rg (b := b) (n := m) (i := e + 1) (by omega) (fun j j0 j1 => (ht.2.2 j j0 (by omega)).2.2)
        show jw_W (js_S n) _ md_223 20 [some (.inr (.inr 103))] [.inl (jk_h b m (e + 1))] σ2 _
        refine jw_W_n 2 (i' := 22) (ls' := [some (.inr (.inr 103))]) (st' := [.inl 51, .inl 49, .inl (jk_h b m (e + 1))]) rfl ?_
        refine jw_W_call (as := [.inl (jk_h b m (e + 1)), .inl 49, .inl 51]) (rest := []) rfl rfl rfl rfl (Nat.le_of_ble_eq_true rfl) (.inl rfl) (jm_in (by unfold jw_rg; omega) (by unfold jw_rg; omega) (by unfold jw_rg; omega)) (by omega) ?_ rfl
        rintro r1 σz (⟨rfl, hs, q1⟩ | ⟨rfl, hs, q1⟩)
        · rw [hs]
          show jw_W (js_S n) _ md_223 23 [some (.inr (.inr 103))] [.inl 1] σ2 _
          refine jw_W_if rfl (by unfold jw_rg; omega) (fun hc3 => ?_) (fun hc3 => ?_)
          · clear hc3
            refine jw_W_n 2 (i' := 32) (ls' := [some (.inr (.inr 103))]) (st' := [.inr (.inr 103), .inr (.inr 103)]) rfl ?_
            refine jw_W_call (as := [.inr (.inr 103)]) (rest := [.inr (.inr 103)]) rfl rfl rfl rfl (Nat.le_of_ble_eq_true rfl) (.inr rfl) (jk_hereR ht2) (by omega) ?_ rfl
            rintro r1 σz ⟨rfl, hs⟩
            rw [hs]
            rw [em2, e28]
            have hh2 := jk_h_rg (b := b) (n := m) (i := e + 1) (by omega) (fun j j0 j1 => (ht.2.2 j j0 (by omega)).2.2)
            show jw_W (js_S n) _ md_223 33 [some (.inr (.inr 103))] [.inl (jk_h b m (e + 1)), .inr (.inr 103)] σ2 _
            refine jw_W_n 2 (i' := 35) (ls' := [some (.inr (.inr 103))]) (st' := [.inl ((jk_h b m (e + 1)) - 48), .inr (.inr 103)]) rfl ?_
            refine jw_W_pf (a := (jk_h b m (e + 1)) - 48) rfl (by omega) rfl rfl rfl rfl rfl ?_
            refine jw_W_n 2 (i' := 38) (ls' := [some (.inr (.inr 103))]) (st' := [.inr (.inr 103), .inr (.inr 103)]) rfl ?_
            refine jw_W_gf rfl rfl rfl ?_
            show jw_W (js_S n) _ md_223 39 [some (.inr (.inr 103))] [.inl (σ2 103 8), .inr (.inr 103)] ((jw_up σ2 103 34 ((jk_h b m (e + 1)) - 48))) _
            refine jw_W_n 2 (i' := 41) (ls' := [some (.inr (.inr 103))]) (st' := [.inl (σ2 103 8 + 1), .inr (.inr 103)]) rfl ?_
            refine jw_W_pf (a := σ2 103 8 + 1) rfl (by omega) rfl rfl rfl rfl rfl ?_
            refine jw_W_n 1 (i' := 43) (ls' := [some (.inr (.inr 103))]) (st' := [.inl 1]) rfl ?_
            refine jw_W_ir rfl ?_
            obtain ⟨σ3, hs3⟩ : ∃ τ : jw_H, τ = jw_up (jw_up σ2 103 34 ((jk_h b m (e + 1)) - 48)) 103 8 (σ2 103 8 + 1) := ⟨_, rfl⟩
            show jk_mp b m σ _ _ (jw_up (jw_up σ2 103 34 ((jk_h b m (e + 1)) - 48)) 103 8 (σ2 103 8 + 1))
            rw [← hs3]
            have hz3 := jk_h_lt (b := b) (m := m) (i := e + 1) (by omega)
            have f3 : jk_fm σ σ3 := by rw [hs3]; exact jk_fm_up (jk_fm_up fm2 (by omega)) (by omega)
            have c3 : ∀ c, c ≠ 103 → σ3 c = σ2 c := fun c hc => by rw [hs3, jw_up_out _ _ _ hc, jw_up_out _ _ _ hc]
            have j3 : ∀ j, j ≠ 8 → j ≠ 34 → σ3 103 j = σ2 103 j := fun j d1 d2 => by rw [hs3, jw_up_ne _ (by omega), jw_up_ne _ (by omega)]
            have e38 : σ3 103 8 = e + 1 + 1 := by rw [hs3, jw_up_eq]; omega
            have e34 : σ3 103 34 = jk_h b m (e + 1) - 48 := by rw [hs3, jw_up_ne _ (by omega)]; exact jw_up_eq _ _ _ _
            rw [jk_pl_4 he hc (by omega) (by omega) h58, if_pos (by omega), jk_po_2 (by omega)]
            obtain ⟨⟨g0, g8, g34, g35, g36, g37, gW, gK, gB⟩, hm2⟩ := hat2
            have o35 := j3 35 (by omega) (by omega)
            have o36 := j3 36 (by omega) (by omega)
            have o37 := j3 37 (by omega) (by omega)
            obtain ⟨q1, q2, q3, q4, q5, q6, q7⟩ := hm2
            refine ⟨f3, .inr ⟨rfl, ⟨rfl, e38, e34, o35.trans g35, o36.trans g36, o37.trans g37, ?_, ?_, ?_⟩, jk_tr_fm ht f3 (by omega), (jk_fm9 f3).trans em, by omega, by omega, by omega, by omega, by omega⟩⟩
            · intro j j0 j1
              rw [c3 121 (by omega)]
              exact gW j j0 j1
            · intro k k0 k1
              rw [c3 122 (by omega)]
              exact gK k k0 k1
            · intro j j0 j1
              rw [c3 123 (by omega)]
              exact gB j j0 j1
          · exact absurd hc3 (show ¬ ¬ ((1 : Int) ≠ 0) by omega)
        · rw [hs]
          show jw_W (js_S n) _ md_223 23 [some (.inr (.inr 103))] [.inl 0] σ2 _
          refine jw_W_if rfl (by unfold jw_rg; omega) (fun hc4 => ?_) (fun hc4 => ?_)
          · exact absurd hc4 (show ¬ ((0 : Int) ≠ 0) by omega)
          · clear hc4
            refine jw_W_n 3 (i' := 27) (ls' := [some (.inr (.inr 103))]) (st' := [.inr (.inr 103), .inl 1, .inr (.inr 103)]) rfl ?_
            refine jw_W_gf rfl rfl rfl ?_
            show jw_W (js_S n) _ md_223 28 [some (.inr (.inr 103))] [.inl (σ2 103 8), .inl 1, .inr (.inr 103)] σ2 _
            refine jw_W_call (as := [.inr (.inr 103), .inl 1, .inl (σ2 103 8)]) (rest := []) rfl rfl rfl rfl (Nat.le_of_ble_eq_true rfl) (.inr rfl) (jk_wrongAt (by omega) (by omega)) (by omega) ?_ rfl
            rintro r1 σz ⟨rfl, hsw⟩
            rename jw_H => σw2
            show jw_W (js_S n) _ md_223 29 [some (.inr (.inr 103))] [.inl 0] σw2 _
            refine jw_W_ir rfl ?_
            rw [jk_pl_4 he hc (by omega) (by omega) h58, if_pos (by omega), jk_po_1 (by omega)]
            exact jk_mp_bad (by rw [hsw]; exact jk_fm_up fm2 (by omega)) (by omega) (by rw [hsw, jw_up_eq, e28])
      · exact absurd hc2 (show ¬ ¬ ((1 : Int) ≠ 0) by omega)
    · rename jw_H => σt
      rw [em1, w8] at h58
      show jw_W (js_S n) _ md_223 15 [some (.inr (.inr 103))] [.inl 0] σt _
      refine jw_W_if rfl (by unfold jw_rg; omega) (fun hc5 => ?_) (fun hc5 => ?_)
      · exact absurd hc5 (show ¬ ((0 : Int) ≠ 0) by omega)
      · clear hc5
        refine jw_W_n 1 (i' := 17) (ls' := [some (.inr (.inr 103))]) (st' := [.inl 0]) rfl ?_
        refine jw_W_ir rfl ?_
        rw [jk_pl_3 he hc (by omega) (by omega) h58]
        exact jk_mp_bad (by rw [hs2]; exact jk_fm_up fm1 (by omega)) (by omega) (by rw [hs2, jw_up_eq, w8])
  · have hc1 : ¬ ((σ1 103 38) = 486) := hc1
    refine jw_W_n 3 (i' := 9) (ls' := [some (.inr (.inr 103))]) (st' := [.inr (.inr 103), .inl 1, .inr (.inr 103)]) rfl ?_
    refine jw_W_gf rfl rfl rfl ?_
    show jw_W (js_S n) _ md_223 10 [some (.inr (.inr 103))] [.inl (σ1 103 39), .inl 1, .inr (.inr 103)] σ1 _
    refine jw_W_call (as := [.inr (.inr 103), .inl 1, .inl (σ1 103 39)]) (rest := []) rfl rfl rfl rfl (Nat.le_of_ble_eq_true rfl) (.inr rfl) (jk_wrongAt (by omega) (by omega)) (by omega) ?_ rfl
    rintro r1 σz ⟨rfl, hsw⟩
    rename jw_H => σw1
    show jw_W (js_S n) _ md_223 11 [some (.inr (.inr 103))] [.inl 0] σw1 _
    refine jw_W_ir rfl ?_
    rw [jk_pl_1 he hc (by omega)]
    exact jk_mp_bad (by rw [hsw]; exact jk_fm_up fm1 (by omega)) (by omega) (by rw [hsw, jw_up_eq, w39])
theorem jk_mp_or {n D k : Nat} {as : List jw_V} {b : Int → Int} {m : Int} {σ P : jw_H} (w : jw_T (js_S n) D k as σ (fun r σ' => jk_mp b m σ P r σ')) : jw_T (js_S n) D k as σ (fun r σ' => (r = some (.inl 0) ∧ jk_mp b m σ P r σ') ∨ (r = some (.inl 1) ∧ jk_mp b m σ P r σ')) := by
  refine jw_T_mono w (Nat.le_refl _) (fun r σ' h => ?_)
  rcases h.2 with hr | hr
  · exact .inl ⟨hr.1, h⟩
  · exact .inr ⟨hr.1, h⟩
theorem jk_mp_tr {b : Int → Int} {m : Int} {σ τ P : jw_H} {r : Option jw_V} {σ' : jw_H} (hf : jk_fm σ τ) (h : jk_mp b m τ P r σ') : jk_mp b m σ P r σ' := ⟨jk_fm_tr hf h.1, h.2⟩
theorem jk_readsLine {n : Nat} {σ : jw_H} {b : Int → Int} {m : Int} {s : jw_H} (hm : jk_mx b m σ) (hl : jk_ml σ s)  : jw_T (js_S n) 6 222 [.inr (.inr 103)] σ (fun r σ' => jk_mp b m σ (jk_pl b m 0 s (s 0 1)) r σ') := by
  refine jw_T_of (D := 5) (M := mm_222) rfl (Nat.le_of_ble_eq_true rfl) (ls0 := [some (.inr (.inr 103)), none, none]) rfl ?_ (by rintro _ _ ⟨-, ⟨rfl, -⟩ | ⟨rfl, -⟩⟩ <;> rfl)
  have hm0 := hm
  obtain ⟨ht, em, h8, h34, h35, h36, h37⟩ := hm
  have hl0 := hl
  obtain ⟨l0, l8, l34, l35, l36, l37, lW, lK, lB⟩ := hl
  refine jw_W_n 1 (i' := 1) (ls' := [some (.inr (.inr 103)), none, none]) (st' := [.inr (.inr 103)]) rfl ?_
  refine jw_W_call (as := [.inr (.inr 103)]) (rest := []) rfl rfl rfl rfl (Nat.le_of_ble_eq_true rfl) (.inr rfl) (jk_readsWord ht (by omega)) (by omega) ?_ rfl
  rintro r1 σ1 ⟨rfl, wf, w39, w8, wq, wl, wi, wm⟩
  rename jw_H => σ1
  rw [em, l8] at w8 wq wl wi wm
  rw [l8] at w39
  generalize he : jk_we b m 300 (s 0 1) = e at w8 wq wl wi wm
  have wk := jk_wk_of wi wl wq
  obtain ⟨c, hc⟩ : ∃ c, jk_wk b (s 0 1) e = c := ⟨_, rfl⟩
  rw [hc] at wk
  obtain ⟨k1, k2, k3, k4, k5, hr1, hr2⟩ := wk
  have hc5 := jk_wk_rg b (s 0 1) e
  rw [hc] at hc5
  have fm1 := jk_fm_f3 wf
  have hat := jk_ml_at (τ := σ1) (i := e) hl0 hm0 wf.1 (fun j d1 d2 d3 => wf.2 j d1 d2 d3) w8 (by omega)
  have ht1 := hat.2.1
  have em1 : σ1 103 9 = m := (jk_fm9 fm1).trans em
  have e35 := (wf.2 35 (by omega) (by omega) (by omega)).trans l35
  have e36 := (wf.2 36 (by omega) (by omega) (by omega)).trans l36
  show jw_W (js_S n) _ md_222 2 [some (.inr (.inr 103)), none, none] [] σ1 _
  refine jw_W_n 1 (i' := 3) (ls' := [some (.inr (.inr 103)), none, none]) (st' := [.inr (.inr 103)]) rfl ?_
  refine jw_W_gf rfl rfl rfl ?_
  show jw_W (js_S n) _ md_222 4 [some (.inr (.inr 103)), none, none] [.inl (σ1 103 38)] σ1 _
  refine jw_W_ldw (z := 763496) rfl rfl ?_
  refine jw_W_ic rfl (by unfold jw_rg; omega) (by unfold jw_rg; omega) (fun hc1 => ?_) (fun hc1 => ?_)
  · have hc1 : (σ1 103 38) = 763496 := hc1
    have hcw : c = 2 := by omega
    refine jw_W_n 1 (i' := 25) (ls' := [some (.inr (.inr 103)), none, none]) (st' := [.inr (.inr 103)]) rfl ?_
    refine jw_W_gf rfl rfl rfl ?_
    show jw_W (js_S n) _ md_222 26 [some (.inr (.inr 103)), none, none] [.inl (σ1 103 38)] σ1 _
    refine jw_W_ldw (z := 763496) rfl rfl ?_
    refine jw_W_ic rfl (by unfold jw_rg; omega) (by unfold jw_rg; omega) (fun hc2 => ?_) (fun hc2 => ?_)
    · have hc2 : (σ1 103 38) = 763496 := hc2
      refine jw_W_n 4 (i' := 37) (ls' := [some (.inr (.inr 103)), some (.inl 1), none]) (st' := [.inl 1]) rfl ?_
      refine jw_W_if rfl (by unfold jw_rg; omega) (fun hc3 => ?_) (fun hc3 => ?_)
      · exact absurd hc3 (show ¬ ((1 : Int) = 0) by omega)
      · clear hc3
        refine jw_W_n 1 (i' := 39) (ls' := [some (.inr (.inr 103)), some (.inl 1), none]) (st' := [.inr (.inr 103)]) rfl ?_
        refine jw_W_gf rfl rfl rfl ?_
        show jw_W (js_S n) _ md_222 40 [some (.inr (.inr 103)), some (.inl 1), none] [.inl (σ1 103 35)] σ1 _
        refine jw_W_n 1 (i' := 41) (ls' := [some (.inr (.inr 103)), some (.inl 1), none]) (st' := [.inl 3, .inl (σ1 103 35)]) rfl ?_
        refine jw_W_ic rfl (by unfold jw_rg; omega) (by unfold jw_rg; omega) (fun hc4 => ?_) (fun hc4 => ?_)
        · have hc4 : (σ1 103 35) = 3 := hc4
          refine jw_W_n 3 (i' := 53) (ls' := [some (.inr (.inr 103)), some (.inl 1), none]) (st' := [.inr (.inr 103), .inl 4, .inr (.inr 103)]) rfl ?_
          refine jw_W_gf rfl rfl rfl ?_
          show jw_W (js_S n) _ md_222 54 [some (.inr (.inr 103)), some (.inl 1), none] [.inl (σ1 103 39), .inl 4, .inr (.inr 103)] σ1 _
          refine jw_W_call (as := [.inr (.inr 103), .inl 4, .inl (σ1 103 39)]) (rest := []) rfl rfl rfl rfl (Nat.le_of_ble_eq_true rfl) (.inr rfl) (jk_wrongAt (by omega) (by omega)) (by omega) ?_ rfl
          rintro r1 σz ⟨rfl, hsw⟩
          rename jw_H => σw4
          show jw_W (js_S n) _ md_222 55 [some (.inr (.inr 103)), some (.inl 1), none] [.inl 0] σw4 _
          refine jw_W_ir rfl ?_
          rw [jk_pl_2 he hc (by omega) (by omega)]
          exact jk_mp_bad (by rw [hsw]; exact jk_fm_up fm1 (by omega)) (by omega) (by rw [hsw, jw_up_eq, w39])
        · have hc4 : ¬ ((σ1 103 35) = 3) := hc4
          refine jw_W_n 1 (i' := 43) (ls' := [some (.inr (.inr 103)), some (.inl 1), none]) (st' := [.inr (.inr 103)]) rfl ?_
          refine jw_W_gf rfl rfl rfl ?_
          show jw_W (js_S n) _ md_222 44 [some (.inr (.inr 103)), some (.inl 1), none] [.inl (σ1 103 38)] σ1 _
          refine jw_W_ldw (z := 365744) rfl rfl ?_
          refine jw_W_ic rfl (by unfold jw_rg; omega) (by unfold jw_rg; omega) (fun hc5 => ?_) (fun hc5 => ?_)
          · have hc5 : (σ1 103 38) ≠ 365744 := hc5
            refine jw_W_n 1 (i' := 57) (ls' := [some (.inr (.inr 103)), some (.inl 1), none]) (st' := [.inr (.inr 103)]) rfl ?_
            refine jw_W_gf rfl rfl rfl ?_
            show jw_W (js_S n) _ md_222 58 [some (.inr (.inr 103)), some (.inl 1), none] [.inl (σ1 103 38)] σ1 _
            refine jw_W_n 3 (i' := 61) (ls' := [some (.inr (.inr 103)), some (.inl 1), some (.inl (σ1 103 38))]) (st' := [.inl 58, .inr (.inr 103)]) rfl ?_
            refine jw_W_call (as := [.inr (.inr 103), .inl 58]) (rest := []) rfl rfl rfl rfl (Nat.le_of_ble_eq_true rfl) (.inr rfl) (jk_takes ht1 (x := 58) (by unfold jw_rg; omega)) (by omega) ?_ rfl
            rintro r1 σ2 (⟨rfl, h58, hs2⟩ | ⟨rfl, h58, hs2⟩)
            · rename jw_H => σ2
              rw [em1, w8] at h58
              have hz := jk_h_lt (b := b) (m := m) (i := e) (by omega)
              have e28 : σ2 103 8 = e + 1 := by rw [hs2, jw_up_eq, w8]
              have fm2 : jk_fm σ σ2 := by rw [hs2]; exact jk_fm_up fm1 (by omega)
              have hat2 := jk_ml_at (τ := σ2) (i := e + 1) hat.1 hat.2 (fun c hc => by rw [hs2, jw_up_out _ _ _ hc]) (fun j d1 d2 d3 => by rw [hs2, jw_up_ne _ (by omega)]) e28 (by omega)
              have ht2 := hat2.2.1
              have em2 := hat2.2.2.1
              have hpl := jk_pl_4 (b := b) (m := m) (first := 0) (s := s) he hc (by omega) (by omega) h58
              have e235 : σ2 103 35 = s 0 3 := hat2.1.2.2.2.1
              have e236 : σ2 103 36 = s 0 4 := hat2.1.2.2.2.2.1
              show jw_W (js_S n) _ md_222 62 [some (.inr (.inr 103)), some (.inl 1), some (.inl (σ1 103 38))] [.inl 1] σ2 _
              refine jw_W_if rfl (by unfold jw_rg; omega) (fun hc6 => ?_) (fun hc6 => ?_)
              · clear hc6
                refine jw_W_n 1 (i' := 66) (ls' := [some (.inr (.inr 103)), some (.inl 1), some (.inl (σ1 103 38))]) (st' := [.inl 1]) rfl ?_
                refine jw_W_if rfl (by unfold jw_rg; omega) (fun hc7 => ?_) (fun hc7 => ?_)
                · exact absurd hc7 (show ¬ ((1 : Int) = 0) by omega)
                · clear hc7
                  refine jw_W_n 2 (i' := 69) (ls' := [some (.inr (.inr 103)), some (.inl 1), some (.inl (σ1 103 38))]) (st' := [.inl (σ1 103 38), .inr (.inr 103)]) rfl ?_
                  refine jw_W_ldw (z := 763496) rfl rfl ?_
                  refine jw_W_ic rfl (by unfold jw_rg; omega) (by unfold jw_rg; omega) (fun hc8 => ?_) (fun hc8 => ?_)
                  · have hc8 : (σ1 103 38) ≠ 763496 := hc8
                    exfalso; omega
                  · have hc8 : (σ1 103 38) = 763496 := Classical.not_not.mp hc8
                    refine jw_W_n 2 (i' := 74) (ls' := [some (.inr (.inr 103)), some (.inl 1), some (.inl (σ1 103 38))]) (st' := [.inl 1, .inr (.inr 103)]) rfl ?_
                    refine jw_W_call (as := [.inr (.inr 103), .inl 1]) (rest := []) rfl rfl rfl rfl (Nat.le_of_ble_eq_true rfl) (.inr rfl) (jk_mp_or (jk_readsWish hat2.2 hat2.1 (sg := 1) (by omega))) (by omega) ?_ rfl
                    rintro r1 σ3 (⟨rfl, hP⟩ | ⟨rfl, hP⟩)
                    · rename jw_H => σ3
                      rw [hpl, if_neg (by omega), if_neg (by omega), if_neg (by omega), if_neg (by omega)]
                      show jw_W (js_S n) _ md_222 75 [some (.inr (.inr 103)), some (.inl 1), some (.inl (σ1 103 38))] [.inl 0] σ3 _
                      refine jw_W_n 1 (i' := 84) (ls' := [some (.inr (.inr 103)), some (.inl 1), some (.inl (σ1 103 38))]) (st' := [.inl 0]) rfl ?_
                      refine jw_W_ir rfl ?_
                      exact jk_mp_tr fm2 hP
                    · rename jw_H => σ3
                      rw [hpl, if_neg (by omega), if_neg (by omega), if_neg (by omega), if_neg (by omega)]
                      show jw_W (js_S n) _ md_222 75 [some (.inr (.inr 103)), some (.inl 1), some (.inl (σ1 103 38))] [.inl 1] σ3 _
                      refine jw_W_n 1 (i' := 84) (ls' := [some (.inr (.inr 103)), some (.inl 1), some (.inl (σ1 103 38))]) (st' := [.inl 1]) rfl ?_
                      refine jw_W_ir rfl ?_
                      exact jk_mp_tr fm2 hP
              · exact absurd hc6 (show ¬ ¬ ((1 : Int) ≠ 0) by omega)
            · rename jw_H => σt
              rw [em1, w8] at h58
              show jw_W (js_S n) _ md_222 62 [some (.inr (.inr 103)), some (.inl 1), some (.inl (σ1 103 38))] [.inl 0] σt _
              refine jw_W_if rfl (by unfold jw_rg; omega) (fun hc9 => ?_) (fun hc9 => ?_)
              · exact absurd hc9 (show ¬ ((0 : Int) ≠ 0) by omega)
              · clear hc9
                refine jw_W_n 1 (i' := 64) (ls' := [some (.inr (.inr 103)), some (.inl 1), some (.inl (σ1 103 38))]) (st' := [.inl 0]) rfl ?_
                refine jw_W_ir rfl ?_
                rw [jk_pl_3 he hc (by omega) (by omega) h58]
                exact jk_mp_bad (by rw [hs2]; exact jk_fm_up fm1 (by omega)) (by omega) (by rw [hs2, jw_up_eq, w8])
          · have hc5 : (σ1 103 38) = 365744 := Classical.not_not.mp hc5
            exfalso; omega
    · have hc2 : ¬ ((σ1 103 38) = 763496) := hc2
      exfalso; omega
  · have hc1 : ¬ ((σ1 103 38) = 763496) := hc1
    refine jw_W_n 1 (i' := 7) (ls' := [some (.inr (.inr 103)), none, none]) (st' := [.inr (.inr 103)]) rfl ?_
    refine jw_W_gf rfl rfl rfl ?_
    show jw_W (js_S n) _ md_222 8 [some (.inr (.inr 103)), none, none] [.inl (σ1 103 38)] σ1 _
    refine jw_W_ldw (z := 12748404) rfl rfl ?_
    refine jw_W_ic rfl (by unfold jw_rg; omega) (by unfold jw_rg; omega) (fun hc10 => ?_) (fun hc10 => ?_)
    · have hc10 : (σ1 103 38) = 12748404 := hc10
      have hcw : c = 3 := by omega
      refine jw_W_n 1 (i' := 25) (ls' := [some (.inr (.inr 103)), none, none]) (st' := [.inr (.inr 103)]) rfl ?_
      refine jw_W_gf rfl rfl rfl ?_
      show jw_W (js_S n) _ md_222 26 [some (.inr (.inr 103)), none, none] [.inl (σ1 103 38)] σ1 _
      refine jw_W_ldw (z := 763496) rfl rfl ?_
      refine jw_W_ic rfl (by unfold jw_rg; omega) (by unfold jw_rg; omega) (fun hc11 => ?_) (fun hc11 => ?_)
      · have hc11 : (σ1 103 38) = 763496 := hc11
        exfalso; omega
      · have hc11 : ¬ ((σ1 103 38) = 763496) := hc11
        refine jw_W_n 1 (i' := 29) (ls' := [some (.inr (.inr 103)), none, none]) (st' := [.inr (.inr 103)]) rfl ?_
        refine jw_W_gf rfl rfl rfl ?_
        show jw_W (js_S n) _ md_222 30 [some (.inr (.inr 103)), none, none] [.inl (σ1 103 38)] σ1 _
        refine jw_W_ldw (z := 12748404) rfl rfl ?_
        refine jw_W_ic rfl (by unfold jw_rg; omega) (by unfold jw_rg; omega) (fun hc12 => ?_) (fun hc12 => ?_)
        · have hc12 : (σ1 103 38) ≠ 12748404 := hc12
          exfalso; omega
        · have hc12 : (σ1 103 38) = 12748404 := Classical.not_not.mp hc12
          refine jw_W_n 4 (i' := 37) (ls' := [some (.inr (.inr 103)), some (.inl 1), none]) (st' := [.inl 1]) rfl ?_
          refine jw_W_if rfl (by unfold jw_rg; omega) (fun hc13 => ?_) (fun hc13 => ?_)
          · exact absurd hc13 (show ¬ ((1 : Int) = 0) by omega)
          · clear hc13
            refine jw_W_n 1 (i' := 39) (ls' := [some (.inr (.inr 103)), some (.inl 1), none]) (st' := [.inr (.inr 103)]) rfl ?_
            refine jw_W_gf rfl rfl rfl ?_
            show jw_W (js_S n) _ md_222 40 [some (.inr (.inr 103)), some (.inl 1), none] [.inl (σ1 103 35)] σ1 _
            refine jw_W_n 1 (i' := 41) (ls' := [some (.inr (.inr 103)), some (.inl 1), none]) (st' := [.inl 3, .inl (σ1 103 35)]) rfl ?_
            refine jw_W_ic rfl (by unfold jw_rg; omega) (by unfold jw_rg; omega) (fun hc14 => ?_) (fun hc14 => ?_)
            · have hc14 : (σ1 103 35) = 3 := hc14
              refine jw_W_n 3 (i' := 53) (ls' := [some (.inr (.inr 103)), some (.inl 1), none]) (st' := [.inr (.inr 103), .inl 4, .inr (.inr 103)]) rfl ?_
              refine jw_W_gf rfl rfl rfl ?_
              show jw_W (js_S n) _ md_222 54 [some (.inr (.inr 103)), some (.inl 1), none] [.inl (σ1 103 39), .inl 4, .inr (.inr 103)] σ1 _
              refine jw_W_call (as := [.inr (.inr 103), .inl 4, .inl (σ1 103 39)]) (rest := []) rfl rfl rfl rfl (Nat.le_of_ble_eq_true rfl) (.inr rfl) (jk_wrongAt (by omega) (by omega)) (by omega) ?_ rfl
              rintro r1 σz ⟨rfl, hsw⟩
              rename jw_H => σw4
              show jw_W (js_S n) _ md_222 55 [some (.inr (.inr 103)), some (.inl 1), none] [.inl 0] σw4 _
              refine jw_W_ir rfl ?_
              rw [jk_pl_2 he hc (by omega) (by omega)]
              exact jk_mp_bad (by rw [hsw]; exact jk_fm_up fm1 (by omega)) (by omega) (by rw [hsw, jw_up_eq, w39])
            · have hc14 : ¬ ((σ1 103 35) = 3) := hc14
              refine jw_W_n 1 (i' := 43) (ls' := [some (.inr (.inr 103)), some (.inl 1), none]) (st' := [.inr (.inr 103)]) rfl ?_
              refine jw_W_gf rfl rfl rfl ?_
              show jw_W (js_S n) _ md_222 44 [some (.inr (.inr 103)), some (.inl 1), none] [.inl (σ1 103 38)] σ1 _
              refine jw_W_ldw (z := 365744) rfl rfl ?_
              refine jw_W_ic rfl (by unfold jw_rg; omega) (by unfold jw_rg; omega) (fun hc15 => ?_) (fun hc15 => ?_)
              · have hc15 : (σ1 103 38) ≠ 365744 := hc15
                refine jw_W_n 1 (i' := 57) (ls' := [some (.inr (.inr 103)), some (.inl 1), none]) (st' := [.inr (.inr 103)]) rfl ?_
                refine jw_W_gf rfl rfl rfl ?_
                show jw_W (js_S n) _ md_222 58 [some (.inr (.inr 103)), some (.inl 1), none] [.inl (σ1 103 38)] σ1 _
                refine jw_W_n 3 (i' := 61) (ls' := [some (.inr (.inr 103)), some (.inl 1), some (.inl (σ1 103 38))]) (st' := [.inl 58, .inr (.inr 103)]) rfl ?_
                refine jw_W_call (as := [.inr (.inr 103), .inl 58]) (rest := []) rfl rfl rfl rfl (Nat.le_of_ble_eq_true rfl) (.inr rfl) (jk_takes ht1 (x := 58) (by unfold jw_rg; omega)) (by omega) ?_ rfl
                rintro r1 σ2 (⟨rfl, h58, hs2⟩ | ⟨rfl, h58, hs2⟩)
                · rename jw_H => σ2
                  rw [em1, w8] at h58
                  have hz := jk_h_lt (b := b) (m := m) (i := e) (by omega)
                  have e28 : σ2 103 8 = e + 1 := by rw [hs2, jw_up_eq, w8]
                  have fm2 : jk_fm σ σ2 := by rw [hs2]; exact jk_fm_up fm1 (by omega)
                  have hat2 := jk_ml_at (τ := σ2) (i := e + 1) hat.1 hat.2 (fun c hc => by rw [hs2, jw_up_out _ _ _ hc]) (fun j d1 d2 d3 => by rw [hs2, jw_up_ne _ (by omega)]) e28 (by omega)
                  have ht2 := hat2.2.1
                  have em2 := hat2.2.2.1
                  have hpl := jk_pl_4 (b := b) (m := m) (first := 0) (s := s) he hc (by omega) (by omega) h58
                  have e235 : σ2 103 35 = s 0 3 := hat2.1.2.2.2.1
                  have e236 : σ2 103 36 = s 0 4 := hat2.1.2.2.2.2.1
                  show jw_W (js_S n) _ md_222 62 [some (.inr (.inr 103)), some (.inl 1), some (.inl (σ1 103 38))] [.inl 1] σ2 _
                  refine jw_W_if rfl (by unfold jw_rg; omega) (fun hc16 => ?_) (fun hc16 => ?_)
                  · clear hc16
                    refine jw_W_n 1 (i' := 66) (ls' := [some (.inr (.inr 103)), some (.inl 1), some (.inl (σ1 103 38))]) (st' := [.inl 1]) rfl ?_
                    refine jw_W_if rfl (by unfold jw_rg; omega) (fun hc17 => ?_) (fun hc17 => ?_)
                    · exact absurd hc17 (show ¬ ((1 : Int) = 0) by omega)
                    · clear hc17
                      refine jw_W_n 2 (i' := 69) (ls' := [some (.inr (.inr 103)), some (.inl 1), some (.inl (σ1 103 38))]) (st' := [.inl (σ1 103 38), .inr (.inr 103)]) rfl ?_
                      refine jw_W_ldw (z := 763496) rfl rfl ?_
                      refine jw_W_ic rfl (by unfold jw_rg; omega) (by unfold jw_rg; omega) (fun hc18 => ?_) (fun hc18 => ?_)
                      · have hc18 : (σ1 103 38) ≠ 763496 := hc18
                        refine jw_W_n 1 (i' := 74) (ls' := [some (.inr (.inr 103)), some (.inl 1), some (.inl (σ1 103 38))]) (st' := [.inl ((-1)), .inr (.inr 103)]) rfl ?_
                        refine jw_W_call (as := [.inr (.inr 103), .inl ((-1))]) (rest := []) rfl rfl rfl rfl (Nat.le_of_ble_eq_true rfl) (.inr rfl) (jk_mp_or (jk_readsWish hat2.2 hat2.1 (sg := -1) (by omega))) (by omega) ?_ rfl
                        rintro r1 σ3 (⟨rfl, hP⟩ | ⟨rfl, hP⟩)
                        · rename jw_H => σ3
                          rw [hpl, if_neg (by omega), if_neg (by omega), if_neg (by omega), if_pos (by omega)]
                          show jw_W (js_S n) _ md_222 75 [some (.inr (.inr 103)), some (.inl 1), some (.inl (σ1 103 38))] [.inl 0] σ3 _
                          refine jw_W_n 1 (i' := 84) (ls' := [some (.inr (.inr 103)), some (.inl 1), some (.inl (σ1 103 38))]) (st' := [.inl 0]) rfl ?_
                          refine jw_W_ir rfl ?_
                          exact jk_mp_tr fm2 hP
                        · rename jw_H => σ3
                          rw [hpl, if_neg (by omega), if_neg (by omega), if_neg (by omega), if_pos (by omega)]
                          show jw_W (js_S n) _ md_222 75 [some (.inr (.inr 103)), some (.inl 1), some (.inl (σ1 103 38))] [.inl 1] σ3 _
                          refine jw_W_n 1 (i' := 84) (ls' := [some (.inr (.inr 103)), some (.inl 1), some (.inl (σ1 103 38))]) (st' := [.inl 1]) rfl ?_
                          refine jw_W_ir rfl ?_
                          exact jk_mp_tr fm2 hP
                      · have hc18 : (σ1 103 38) = 763496 := Classical.not_not.mp hc18
                        exfalso; omega
                  · exact absurd hc16 (show ¬ ¬ ((1 : Int) ≠ 0) by omega)
                · rename jw_H => σt
                  rw [em1, w8] at h58
                  show jw_W (js_S n) _ md_222 62 [some (.inr (.inr 103)), some (.inl 1), some (.inl (σ1 103 38))] [.inl 0] σt _
                  refine jw_W_if rfl (by unfold jw_rg; omega) (fun hc19 => ?_) (fun hc19 => ?_)
                  · exact absurd hc19 (show ¬ ((0 : Int) ≠ 0) by omega)
                  · clear hc19
                    refine jw_W_n 1 (i' := 64) (ls' := [some (.inr (.inr 103)), some (.inl 1), some (.inl (σ1 103 38))]) (st' := [.inl 0]) rfl ?_
                    refine jw_W_ir rfl ?_
                    rw [jk_pl_3 he hc (by omega) (by omega) h58]
                    exact jk_mp_bad (by rw [hs2]; exact jk_fm_up fm1 (by omega)) (by omega) (by rw [hs2, jw_up_eq, w8])
              · have hc15 : (σ1 103 38) = 365744 := Classical.not_not.mp hc15
                exfalso; omega
    · have hc10 : ¬ ((σ1 103 38) = 12748404) := hc10
      refine jw_W_n 1 (i' := 11) (ls' := [some (.inr (.inr 103)), none, none]) (st' := [.inr (.inr 103)]) rfl ?_
      refine jw_W_gf rfl rfl rfl ?_
      show jw_W (js_S n) _ md_222 12 [some (.inr (.inr 103)), none, none] [.inl (σ1 103 38)] σ1 _
      refine jw_W_ldw (z := 365744) rfl rfl ?_
      refine jw_W_ic rfl (by unfold jw_rg; omega) (by unfold jw_rg; omega) (fun hc20 => ?_) (fun hc20 => ?_)
      · have hc20 : (σ1 103 38) = 365744 := hc20
        have hcw : c = 4 := by omega
        refine jw_W_n 1 (i' := 25) (ls' := [some (.inr (.inr 103)), none, none]) (st' := [.inr (.inr 103)]) rfl ?_
        refine jw_W_gf rfl rfl rfl ?_
        show jw_W (js_S n) _ md_222 26 [some (.inr (.inr 103)), none, none] [.inl (σ1 103 38)] σ1 _
        refine jw_W_ldw (z := 763496) rfl rfl ?_
        refine jw_W_ic rfl (by unfold jw_rg; omega) (by unfold jw_rg; omega) (fun hc21 => ?_) (fun hc21 => ?_)
        · have hc21 : (σ1 103 38) = 763496 := hc21
          exfalso; omega
        · have hc21 : ¬ ((σ1 103 38) = 763496) := hc21
          refine jw_W_n 1 (i' := 29) (ls' := [some (.inr (.inr 103)), none, none]) (st' := [.inr (.inr 103)]) rfl ?_
          refine jw_W_gf rfl rfl rfl ?_
          show jw_W (js_S n) _ md_222 30 [some (.inr (.inr 103)), none, none] [.inl (σ1 103 38)] σ1 _
          refine jw_W_ldw (z := 12748404) rfl rfl ?_
          refine jw_W_ic rfl (by unfold jw_rg; omega) (by unfold jw_rg; omega) (fun hc22 => ?_) (fun hc22 => ?_)
          · have hc22 : (σ1 103 38) ≠ 12748404 := hc22
            refine jw_W_n 3 (i' := 37) (ls' := [some (.inr (.inr 103)), some (.inl 0), none]) (st' := [.inl 0]) rfl ?_
            refine jw_W_if rfl (by unfold jw_rg; omega) (fun hc23 => ?_) (fun hc23 => ?_)
            · clear hc23
              refine jw_W_n 1 (i' := 43) (ls' := [some (.inr (.inr 103)), some (.inl 0), none]) (st' := [.inr (.inr 103)]) rfl ?_
              refine jw_W_gf rfl rfl rfl ?_
              show jw_W (js_S n) _ md_222 44 [some (.inr (.inr 103)), some (.inl 0), none] [.inl (σ1 103 38)] σ1 _
              refine jw_W_ldw (z := 365744) rfl rfl ?_
              refine jw_W_ic rfl (by unfold jw_rg; omega) (by unfold jw_rg; omega) (fun hc24 => ?_) (fun hc24 => ?_)
              · have hc24 : (σ1 103 38) ≠ 365744 := hc24
                exfalso; omega
              · have hc24 : (σ1 103 38) = 365744 := Classical.not_not.mp hc24
                refine jw_W_n 1 (i' := 47) (ls' := [some (.inr (.inr 103)), some (.inl 0), none]) (st' := [.inr (.inr 103)]) rfl ?_
                refine jw_W_gf rfl rfl rfl ?_
                show jw_W (js_S n) _ md_222 48 [some (.inr (.inr 103)), some (.inl 0), none] [.inl (σ1 103 36)] σ1 _
                refine jw_W_n 1 (i' := 49) (ls' := [some (.inr (.inr 103)), some (.inl 0), none]) (st' := [.inl 4, .inl (σ1 103 36)]) rfl ?_
                refine jw_W_ic rfl (by unfold jw_rg; omega) (by unfold jw_rg; omega) (fun hc25 => ?_) (fun hc25 => ?_)
                · have hc25 : (σ1 103 36) ≠ 4 := hc25
                  refine jw_W_n 1 (i' := 57) (ls' := [some (.inr (.inr 103)), some (.inl 0), none]) (st' := [.inr (.inr 103)]) rfl ?_
                  refine jw_W_gf rfl rfl rfl ?_
                  show jw_W (js_S n) _ md_222 58 [some (.inr (.inr 103)), some (.inl 0), none] [.inl (σ1 103 38)] σ1 _
                  refine jw_W_n 3 (i' := 61) (ls' := [some (.inr (.inr 103)), some (.inl 0), some (.inl (σ1 103 38))]) (st' := [.inl 58, .inr (.inr 103)]) rfl ?_
                  refine jw_W_call (as := [.inr (.inr 103), .inl 58]) (rest := []) rfl rfl rfl rfl (Nat.le_of_ble_eq_true rfl) (.inr rfl) (jk_takes ht1 (x := 58) (by unfold jw_rg; omega)) (by omega) ?_ rfl
                  rintro r1 σ2 (⟨rfl, h58, hs2⟩ | ⟨rfl, h58, hs2⟩)
                  · rename jw_H => σ2
                    rw [em1, w8] at h58
                    have hz := jk_h_lt (b := b) (m := m) (i := e) (by omega)
                    have e28 : σ2 103 8 = e + 1 := by rw [hs2, jw_up_eq, w8]
                    have fm2 : jk_fm σ σ2 := by rw [hs2]; exact jk_fm_up fm1 (by omega)
                    have hat2 := jk_ml_at (τ := σ2) (i := e + 1) hat.1 hat.2 (fun c hc => by rw [hs2, jw_up_out _ _ _ hc]) (fun j d1 d2 d3 => by rw [hs2, jw_up_ne _ (by omega)]) e28 (by omega)
                    have ht2 := hat2.2.1
                    have em2 := hat2.2.2.1
                    have hpl := jk_pl_4 (b := b) (m := m) (first := 0) (s := s) he hc (by omega) (by omega) h58
                    have e235 : σ2 103 35 = s 0 3 := hat2.1.2.2.2.1
                    have e236 : σ2 103 36 = s 0 4 := hat2.1.2.2.2.2.1
                    show jw_W (js_S n) _ md_222 62 [some (.inr (.inr 103)), some (.inl 0), some (.inl (σ1 103 38))] [.inl 1] σ2 _
                    refine jw_W_if rfl (by unfold jw_rg; omega) (fun hc26 => ?_) (fun hc26 => ?_)
                    · clear hc26
                      refine jw_W_n 1 (i' := 66) (ls' := [some (.inr (.inr 103)), some (.inl 0), some (.inl (σ1 103 38))]) (st' := [.inl 0]) rfl ?_
                      refine jw_W_if rfl (by unfold jw_rg; omega) (fun hc27 => ?_) (fun hc27 => ?_)
                      · clear hc27
                        refine jw_W_n 1 (i' := 77) (ls' := [some (.inr (.inr 103)), some (.inl 0), some (.inl (σ1 103 38))]) (st' := [.inl (σ1 103 38)]) rfl ?_
                        refine jw_W_ldw (z := 365744) rfl rfl ?_
                        refine jw_W_ic rfl (by unfold jw_rg; omega) (by unfold jw_rg; omega) (fun hc28 => ?_) (fun hc28 => ?_)
                        · have hc28 : (σ1 103 38) ≠ 365744 := hc28
                          exfalso; omega
                        · have hc28 : (σ1 103 38) = 365744 := Classical.not_not.mp hc28
                          refine jw_W_n 1 (i' := 80) (ls' := [some (.inr (.inr 103)), some (.inl 0), some (.inl (σ1 103 38))]) (st' := [.inr (.inr 103)]) rfl ?_
                          refine jw_W_call (as := [.inr (.inr 103)]) (rest := []) rfl rfl rfl rfl (Nat.le_of_ble_eq_true rfl) (.inr rfl) (jk_mp_or (jk_readsKeep hat2.2 hat2.1 (by omega))) (by omega) ?_ rfl
                          rintro r1 σ3 (⟨rfl, hP⟩ | ⟨rfl, hP⟩)
                          · rename jw_H => σ3
                            rw [hpl, if_neg (by omega), if_pos (by omega)]
                            show jw_W (js_S n) _ md_222 81 [some (.inr (.inr 103)), some (.inl 0), some (.inl (σ1 103 38))] [.inl 0] σ3 _
                            refine jw_W_n 1 (i' := 84) (ls' := [some (.inr (.inr 103)), some (.inl 0), some (.inl (σ1 103 38))]) (st' := [.inl 0]) rfl ?_
                            refine jw_W_ir rfl ?_
                            exact jk_mp_tr fm2 hP
                          · rename jw_H => σ3
                            rw [hpl, if_neg (by omega), if_pos (by omega)]
                            show jw_W (js_S n) _ md_222 81 [some (.inr (.inr 103)), some (.inl 0), some (.inl (σ1 103 38))] [.inl 1] σ3 _
                            refine jw_W_n 1 (i' := 84) (ls' := [some (.inr (.inr 103)), some (.inl 0), some (.inl (σ1 103 38))]) (st' := [.inl 1]) rfl ?_
                            refine jw_W_ir rfl ?_
                            exact jk_mp_tr fm2 hP
                      · exact absurd hc27 (show ¬ ¬ ((0 : Int) = 0) by omega)
                    · exact absurd hc26 (show ¬ ¬ ((1 : Int) ≠ 0) by omega)
                  · rename jw_H => σt
                    rw [em1, w8] at h58
                    show jw_W (js_S n) _ md_222 62 [some (.inr (.inr 103)), some (.inl 0), some (.inl (σ1 103 38))] [.inl 0] σt _
                    refine jw_W_if rfl (by unfold jw_rg; omega) (fun hc29 => ?_) (fun hc29 => ?_)
                    · exact absurd hc29 (show ¬ ((0 : Int) ≠ 0) by omega)
                    · clear hc29
                      refine jw_W_n 1 (i' := 64) (ls' := [some (.inr (.inr 103)), some (.inl 0), some (.inl (σ1 103 38))]) (st' := [.inl 0]) rfl ?_
                      refine jw_W_ir rfl ?_
                      rw [jk_pl_3 he hc (by omega) (by omega) h58]
                      exact jk_mp_bad (by rw [hs2]; exact jk_fm_up fm1 (by omega)) (by omega) (by rw [hs2, jw_up_eq, w8])
                · have hc25 : (σ1 103 36) = 4 := Classical.not_not.mp hc25
                  refine jw_W_n 3 (i' := 53) (ls' := [some (.inr (.inr 103)), some (.inl 0), none]) (st' := [.inr (.inr 103), .inl 4, .inr (.inr 103)]) rfl ?_
                  refine jw_W_gf rfl rfl rfl ?_
                  show jw_W (js_S n) _ md_222 54 [some (.inr (.inr 103)), some (.inl 0), none] [.inl (σ1 103 39), .inl 4, .inr (.inr 103)] σ1 _
                  refine jw_W_call (as := [.inr (.inr 103), .inl 4, .inl (σ1 103 39)]) (rest := []) rfl rfl rfl rfl (Nat.le_of_ble_eq_true rfl) (.inr rfl) (jk_wrongAt (by omega) (by omega)) (by omega) ?_ rfl
                  rintro r1 σz ⟨rfl, hsw⟩
                  rename jw_H => σw4
                  show jw_W (js_S n) _ md_222 55 [some (.inr (.inr 103)), some (.inl 0), none] [.inl 0] σw4 _
                  refine jw_W_ir rfl ?_
                  rw [jk_pl_2 he hc (by omega) (by omega)]
                  exact jk_mp_bad (by rw [hsw]; exact jk_fm_up fm1 (by omega)) (by omega) (by rw [hsw, jw_up_eq, w39])
            · exact absurd hc23 (show ¬ ¬ ((0 : Int) = 0) by omega)
          · have hc22 : (σ1 103 38) = 12748404 := Classical.not_not.mp hc22
            exfalso; omega
      · have hc20 : ¬ ((σ1 103 38) = 365744) := hc20
        refine jw_W_n 1 (i' := 15) (ls' := [some (.inr (.inr 103)), none, none]) (st' := [.inr (.inr 103)]) rfl ?_
        refine jw_W_gf rfl rfl rfl ?_
        show jw_W (js_S n) _ md_222 16 [some (.inr (.inr 103)), none, none] [.inl (σ1 103 38)] σ1 _
        refine jw_W_n 1 (i' := 17) (ls' := [some (.inr (.inr 103)), none, none]) (st' := [.inl 2552, .inl (σ1 103 38)]) rfl ?_
        refine jw_W_ic rfl (by unfold jw_rg; omega) (by unfold jw_rg; omega) (fun hc30 => ?_) (fun hc30 => ?_)
        · have hc30 : (σ1 103 38) = 2552 := hc30
          have hcw : c = 5 := by omega
          refine jw_W_n 1 (i' := 25) (ls' := [some (.inr (.inr 103)), none, none]) (st' := [.inr (.inr 103)]) rfl ?_
          refine jw_W_gf rfl rfl rfl ?_
          show jw_W (js_S n) _ md_222 26 [some (.inr (.inr 103)), none, none] [.inl (σ1 103 38)] σ1 _
          refine jw_W_ldw (z := 763496) rfl rfl ?_
          refine jw_W_ic rfl (by unfold jw_rg; omega) (by unfold jw_rg; omega) (fun hc31 => ?_) (fun hc31 => ?_)
          · have hc31 : (σ1 103 38) = 763496 := hc31
            exfalso; omega
          · have hc31 : ¬ ((σ1 103 38) = 763496) := hc31
            refine jw_W_n 1 (i' := 29) (ls' := [some (.inr (.inr 103)), none, none]) (st' := [.inr (.inr 103)]) rfl ?_
            refine jw_W_gf rfl rfl rfl ?_
            show jw_W (js_S n) _ md_222 30 [some (.inr (.inr 103)), none, none] [.inl (σ1 103 38)] σ1 _
            refine jw_W_ldw (z := 12748404) rfl rfl ?_
            refine jw_W_ic rfl (by unfold jw_rg; omega) (by unfold jw_rg; omega) (fun hc32 => ?_) (fun hc32 => ?_)
            · have hc32 : (σ1 103 38) ≠ 12748404 := hc32
              refine jw_W_n 3 (i' := 37) (ls' := [some (.inr (.inr 103)), some (.inl 0), none]) (st' := [.inl 0]) rfl ?_
              refine jw_W_if rfl (by unfold jw_rg; omega) (fun hc33 => ?_) (fun hc33 => ?_)
              · clear hc33
                refine jw_W_n 1 (i' := 43) (ls' := [some (.inr (.inr 103)), some (.inl 0), none]) (st' := [.inr (.inr 103)]) rfl ?_
                refine jw_W_gf rfl rfl rfl ?_
                show jw_W (js_S n) _ md_222 44 [some (.inr (.inr 103)), some (.inl 0), none] [.inl (σ1 103 38)] σ1 _
                refine jw_W_ldw (z := 365744) rfl rfl ?_
                refine jw_W_ic rfl (by unfold jw_rg; omega) (by unfold jw_rg; omega) (fun hc34 => ?_) (fun hc34 => ?_)
                · have hc34 : (σ1 103 38) ≠ 365744 := hc34
                  refine jw_W_n 1 (i' := 57) (ls' := [some (.inr (.inr 103)), some (.inl 0), none]) (st' := [.inr (.inr 103)]) rfl ?_
                  refine jw_W_gf rfl rfl rfl ?_
                  show jw_W (js_S n) _ md_222 58 [some (.inr (.inr 103)), some (.inl 0), none] [.inl (σ1 103 38)] σ1 _
                  refine jw_W_n 3 (i' := 61) (ls' := [some (.inr (.inr 103)), some (.inl 0), some (.inl (σ1 103 38))]) (st' := [.inl 58, .inr (.inr 103)]) rfl ?_
                  refine jw_W_call (as := [.inr (.inr 103), .inl 58]) (rest := []) rfl rfl rfl rfl (Nat.le_of_ble_eq_true rfl) (.inr rfl) (jk_takes ht1 (x := 58) (by unfold jw_rg; omega)) (by omega) ?_ rfl
                  rintro r1 σ2 (⟨rfl, h58, hs2⟩ | ⟨rfl, h58, hs2⟩)
                  · rename jw_H => σ2
                    rw [em1, w8] at h58
                    have hz := jk_h_lt (b := b) (m := m) (i := e) (by omega)
                    have e28 : σ2 103 8 = e + 1 := by rw [hs2, jw_up_eq, w8]
                    have fm2 : jk_fm σ σ2 := by rw [hs2]; exact jk_fm_up fm1 (by omega)
                    have hat2 := jk_ml_at (τ := σ2) (i := e + 1) hat.1 hat.2 (fun c hc => by rw [hs2, jw_up_out _ _ _ hc]) (fun j d1 d2 d3 => by rw [hs2, jw_up_ne _ (by omega)]) e28 (by omega)
                    have ht2 := hat2.2.1
                    have em2 := hat2.2.2.1
                    have hpl := jk_pl_4 (b := b) (m := m) (first := 0) (s := s) he hc (by omega) (by omega) h58
                    have e235 : σ2 103 35 = s 0 3 := hat2.1.2.2.2.1
                    have e236 : σ2 103 36 = s 0 4 := hat2.1.2.2.2.2.1
                    show jw_W (js_S n) _ md_222 62 [some (.inr (.inr 103)), some (.inl 0), some (.inl (σ1 103 38))] [.inl 1] σ2 _
                    refine jw_W_if rfl (by unfold jw_rg; omega) (fun hc35 => ?_) (fun hc35 => ?_)
                    · clear hc35
                      refine jw_W_n 1 (i' := 66) (ls' := [some (.inr (.inr 103)), some (.inl 0), some (.inl (σ1 103 38))]) (st' := [.inl 0]) rfl ?_
                      refine jw_W_if rfl (by unfold jw_rg; omega) (fun hc36 => ?_) (fun hc36 => ?_)
                      · clear hc36
                        refine jw_W_n 1 (i' := 77) (ls' := [some (.inr (.inr 103)), some (.inl 0), some (.inl (σ1 103 38))]) (st' := [.inl (σ1 103 38)]) rfl ?_
                        refine jw_W_ldw (z := 365744) rfl rfl ?_
                        refine jw_W_ic rfl (by unfold jw_rg; omega) (by unfold jw_rg; omega) (fun hc37 => ?_) (fun hc37 => ?_)
                        · have hc37 : (σ1 103 38) ≠ 365744 := hc37
                          refine jw_W_n 1 (i' := 83) (ls' := [some (.inr (.inr 103)), some (.inl 0), some (.inl (σ1 103 38))]) (st' := [.inr (.inr 103)]) rfl ?_
                          refine jw_W_call (as := [.inr (.inr 103)]) (rest := []) rfl rfl rfl rfl (Nat.le_of_ble_eq_true rfl) (.inr rfl) (jk_mp_or (jk_readsBox hat2.2 hat2.1)) (by omega) ?_ rfl
                          rintro r1 σ3 (⟨rfl, hP⟩ | ⟨rfl, hP⟩)
                          · rename jw_H => σ3
                            rw [hpl, if_neg (by omega), if_neg (by omega), if_pos (by omega)]
                            show jw_W (js_S n) _ md_222 84 [some (.inr (.inr 103)), some (.inl 0), some (.inl (σ1 103 38))] [.inl 0] σ3 _
                            refine jw_W_ir rfl ?_
                            exact jk_mp_tr fm2 hP
                          · rename jw_H => σ3
                            rw [hpl, if_neg (by omega), if_neg (by omega), if_pos (by omega)]
                            show jw_W (js_S n) _ md_222 84 [some (.inr (.inr 103)), some (.inl 0), some (.inl (σ1 103 38))] [.inl 1] σ3 _
                            refine jw_W_ir rfl ?_
                            exact jk_mp_tr fm2 hP
                        · have hc37 : (σ1 103 38) = 365744 := Classical.not_not.mp hc37
                          exfalso; omega
                      · exact absurd hc36 (show ¬ ¬ ((0 : Int) = 0) by omega)
                    · exact absurd hc35 (show ¬ ¬ ((1 : Int) ≠ 0) by omega)
                  · rename jw_H => σt
                    rw [em1, w8] at h58
                    show jw_W (js_S n) _ md_222 62 [some (.inr (.inr 103)), some (.inl 0), some (.inl (σ1 103 38))] [.inl 0] σt _
                    refine jw_W_if rfl (by unfold jw_rg; omega) (fun hc38 => ?_) (fun hc38 => ?_)
                    · exact absurd hc38 (show ¬ ((0 : Int) ≠ 0) by omega)
                    · clear hc38
                      refine jw_W_n 1 (i' := 64) (ls' := [some (.inr (.inr 103)), some (.inl 0), some (.inl (σ1 103 38))]) (st' := [.inl 0]) rfl ?_
                      refine jw_W_ir rfl ?_
                      rw [jk_pl_3 he hc (by omega) (by omega) h58]
                      exact jk_mp_bad (by rw [hs2]; exact jk_fm_up fm1 (by omega)) (by omega) (by rw [hs2, jw_up_eq, w8])
                · have hc34 : (σ1 103 38) = 365744 := Classical.not_not.mp hc34
                  exfalso; omega
              · exact absurd hc33 (show ¬ ¬ ((0 : Int) = 0) by omega)
            · have hc32 : (σ1 103 38) = 12748404 := Classical.not_not.mp hc32
              exfalso; omega
        · have hc30 : ¬ ((σ1 103 38) = 2552) := hc30
          refine jw_W_n 3 (i' := 21) (ls' := [some (.inr (.inr 103)), none, none]) (st' := [.inr (.inr 103), .inl 1, .inr (.inr 103)]) rfl ?_
          refine jw_W_gf rfl rfl rfl ?_
          show jw_W (js_S n) _ md_222 22 [some (.inr (.inr 103)), none, none] [.inl (σ1 103 39), .inl 1, .inr (.inr 103)] σ1 _
          refine jw_W_call (as := [.inr (.inr 103), .inl 1, .inl (σ1 103 39)]) (rest := []) rfl rfl rfl rfl (Nat.le_of_ble_eq_true rfl) (.inr rfl) (jk_wrongAt (by omega) (by omega)) (by omega) ?_ rfl
          rintro r1 σz ⟨rfl, hsw⟩
          rename jw_H => σw1
          show jw_W (js_S n) _ md_222 23 [some (.inr (.inr 103)), none, none] [.inl 0] σw1 _
          refine jw_W_ir rfl ?_
          rw [jk_pl_1 he hc (by omega)]
          exact jk_mp_bad (by rw [hsw]; exact jk_fm_up fm1 (by omega)) (by omega) (by rw [hsw, jw_up_eq, w39])

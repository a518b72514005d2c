/-! ===== law (reference) ===== -/
/-- codes of the grammar hold no jump that waits -/
theorem jo_gd_pos {b : Bool} {c : List (Int × Int)} (h : jl_gd b c) : ∀ q, q ∈ c → 0 ≤ q.2 := by
  refine h (fun _ c => ∀ q, q ∈ c → 0 ≤ q.2) (fun v h0 _ q hq => ?_) (fun v h0 _ q hq => ?_) (fun A B o hA hB h1 h2 q hq => ?_) (fun A B o hA hB h1 h2 q hq => ?_) (fun A hA q hq => ?_) (fun A B hA hB q hq => ?_) (fun A B hA hB q hq => ?_)
  · rw [List.mem_singleton.mp hq]
    exact h0
  · rw [List.mem_singleton.mp hq]
    exact h0
  · rcases List.mem_append.mp hq with hq | hq
    · exact (List.mem_append.mp hq).elim (hA q) (hB q)
    · rw [List.mem_singleton.mp hq]
      exact Int.le_refl 0
  · rcases List.mem_append.mp hq with hq | hq
    · exact (List.mem_append.mp hq).elim (hA q) (hB q)
    · rw [List.mem_singleton.mp hq]
      exact Int.le_refl 0
  · rcases List.mem_append.mp hq with hq | hq
    · exact hA q hq
    · rw [List.mem_singleton.mp hq]
      exact Int.le_refl 0
  · rcases List.mem_append.mp hq with hq | hq
    · exact hA q hq
    · rcases List.mem_cons.mp hq with rfl | hq
      · show 0 ≤ ((B.length : Nat) : Int)
        omega
      · exact hB q hq
  · rcases List.mem_append.mp hq with hq | hq
    · exact hA q hq
    · rcases List.mem_cons.mp hq with rfl | hq
      · show 0 ≤ ((B.length : Nat) : Int)
        omega
      · exact hB q hq
theorem jo_wd_eq {q : Int × Int} {p : Int} (h : 0 ≤ q.2) : jo_wd q p = jl_wd q p := by
  unfold jo_wd jl_wd
  by_cases h1 : q.1 = 11 ∨ q.1 = 12
  · rw [if_pos h1, if_pos h1, if_neg (by omega)]
  · rw [if_neg h1, if_neg h1]
/-- where the reader stands within the rules -/
def jo_lq (b : Int → Int) (m : Int) (σ0 : jw_H) (R : Int × Int × List jl_Q) (v : Int) (τ : jw_H) : Prop := jo_g σ0 τ ∧ ((v = 0 ∧ R.1 ≠ 0 ∧ τ 103 10 = R.1) ∨ (v = 1 ∧ R.1 = 0 ∧ ∃ c, jo_ru b m R.2.1 R.2.2 c τ))
theorem jo_rz_or {n D : Nat} {b : Int → Int} {m i : Int} {L : List jl_Q} {c : jo_C} {σ : jw_H} (h : jw_T (js_S n) D 205 [.inr (.inr 103)] σ (fun r σ' => jo_rz b m i L c σ r σ')) : jw_T (js_S n) D 205 [.inr (.inr 103)] σ (fun r σ' => (r = some (.inl 0) ∧ jo_rz b m i L c σ (some (.inl 0)) σ') ∨ (r = some (.inl 1) ∧ jo_rz b m i L c σ (some (.inl 1)) σ')) := by
  refine jw_T_mono h (Nat.le_refl _) (fun r σ' hq => ?_)
  have hq0 := hq
  rcases hq with ⟨rfl, -⟩ | ⟨rfl, -⟩
  · exact .inl ⟨rfl, hq0⟩
  · exact .inr ⟨rfl, hq0⟩
theorem jo_ru_to {b : Int → Int} {m i i' : Int} {L : List jl_Q} {c : jo_C} {σ σ' : jw_H} (h : jo_ru b m i L c σ) (hs : σ' = jw_up σ 103 8 i') (hi : i ≤ i' ∧ i' ≤ m) : jo_ru b m i' L c σ' := by
  obtain ⟨ht, em, h240, h8, hi2, h13, hcl, hc, h15, hl16, hru⟩ := h
  exact ⟨⟨by rw [hs, jw_up_eq]; omega, by rw [hs]; exact ht.2.1, fun j j0 j1 => by rw [hs] at j1 ⊢; exact ht.2.2 j j0 j1⟩, by rw [hs]; exact em, h240, by rw [hs, jw_up_eq], by omega, by rw [hs]; exact h13, by omega, jo_cr_fr hc (by rw [hs]; rfl), by rw [hs]; exact h15, hl16, fun t q hq => by
    have := hru t q hq
    unfold jo_rw at this ⊢
    rw [hs]
    exact this⟩
theorem jo_law_loop {n D : Nat} {Q : Option jw_V → jw_H → Prop} {b : Int → Int} {m k : Int} {σ0 : jw_H} (hD : 8 ≤ D) (hQ : ∀ (τ : jw_H) (v : Int), jo_lq b m σ0 (jl_law b m) v τ → jw_W (js_S n) D md_207 36 [some (.inr (.inr 103)), some (.inl k), some (.inl v), none] [] τ Q) : ∀ (f : Nat) {R : Int × Int × List jl_Q} {τ : jw_H} {v : Int}, jo_lq b m σ0 R v τ → (R.1 = 0 → m < R.2.1 + (f : Int)) → jl_rls b m f R = jl_law b m → jw_W (js_S n) D md_207 17 [some (.inr (.inr 103)), some (.inl k), some (.inl v), none] [] τ Q
  | f, R, τ, v, hlq, hfu, hP => by
    have hlq0 := hlq
    obtain ⟨hg, ⟨rfl, h1, h2⟩ | ⟨rfl, h1, c, hU⟩⟩ := hlq0
    · skip
      refine jw_W_n 1 (i' := 18) (ls' := [some (.inr (.inr 103)), some (.inl k), some (.inl 0), none]) (st' := [.inl 0]) rfl ?_
      refine jw_W_if rfl (by unfold jw_rg; omega) (fun hc1 => ?_) (fun hc1 => ?_)
      · clear hc1
        exact hQ _ _ (by rw [← hP, jl_rls_no (fun hh => h1 hh.1) f]; exact hlq)
      · exact absurd hc1 (show ¬ ¬ ((0 : Int) = 0) by omega)
    · have hU0 := hU
      obtain ⟨ht, em, h240, h8, hi, h13, hcl, hc, h15, hl16, hru⟩ := hU
      have hf1 := hfu h1
      have bad : jk_h b m R.2.1 ≠ 59 → R.2.1 < m → ∀ {υ : jw_H}, υ = jw_up τ 103 10 (-1000 * 1 - R.2.1) → jw_W (js_S n) D md_207 17 [some (.inr (.inr 103)), some (.inl k), some (.inl 0), none] [] υ Q := by
        intro h59 hlm υ hυ
        match f, hf1, hP with
        | 0, hf1, hP => omega
        | f + 1, hf1, hP =>
          rw [jl_rls_bad ⟨h1, hlm⟩ h59 f] at hP
          have hF : (-1000 * 1 - R.2.1, (0 : Int), ([] : List jl_Q)).1 ≠ 0 := by show -1000 * 1 - R.2.1 ≠ 0; omega
          refine jo_law_loop hD hQ f (R := (-1000 * 1 - R.2.1, 0, [])) ⟨by rw [hυ]; exact jo_g_up hg (by omega), .inl ⟨rfl, hF, by rw [hυ, jw_up_eq]⟩⟩ (fun h => absurd h hF) ?_
          rw [jl_rls_no (fun hh => hF hh.1) f]
          exact hP
      have go : jk_h b m R.2.1 = 59 → R.2.1 < m → ∀ {υ σ1 : jw_H} {v : Int}, jo_g τ υ → (v = 0 ∨ v = 1) → jo_rz b m (R.2.1 + 1) R.2.2 c σ1 (some (.inl v)) υ → jw_W (js_S n) D md_207 17 [some (.inr (.inr 103)), some (.inl k), some (.inl v), none] [] υ Q := by
        intro h59 hlm υ σ1 v hgu hv hz
        match f, hf1, hP with
        | 0, hf1, hP => omega
        | f + 1, hf1, hP =>
          rw [jl_rls_go ⟨h1, hlm⟩ h59 f] at hP
          have hgt := jl_rl_ok (b := b) (m := m) (c := (R.2.2.length : Int)) (i := R.2.1 + 1) (by omega)
          refine jo_law_loop hD hQ f (R := ((jl_rl b m (R.2.2.length : Int) (R.2.1 + 1)).1, (jl_rl b m (R.2.2.length : Int) (R.2.1 + 1)).2.1, R.2.2 ++ [(jl_rl b m (R.2.2.length : Int) (R.2.1 + 1)).2.2])) ⟨jo_g_tr hg hgu, ?_⟩ (fun hq => ?_) hP
          · rcases hz with ⟨hv0, hz1, -, hz2⟩ | ⟨hv0, hz1, -, c', hz2⟩
            · exact .inl ⟨jo_ne hv0, hz1, hz2⟩
            · exact .inr ⟨jo_ne hv0, hz1, c', hz2⟩
          · have := hgt hq
            show m < (jl_rl b m (R.2.2.length : Int) (R.2.1 + 1)).2.1 + (f : Int)
            omega
      refine jw_W_n 1 (i' := 18) (ls' := [some (.inr (.inr 103)), some (.inl k), some (.inl 1), none]) (st' := [.inl 1]) rfl ?_
      refine jw_W_if rfl (by unfold jw_rg; omega) (fun hc1 => ?_) (fun hc1 => ?_)
      · exact absurd hc1 (show ¬ ((1 : Int) = 0) by omega)
      · clear hc1
        refine jw_W_n 1 (i' := 20) (ls' := [some (.inr (.inr 103)), some (.inl k), some (.inl 1), none]) (st' := [.inr (.inr 103)]) rfl ?_
        refine jw_W_gf rfl rfl rfl ?_
        show jw_W (js_S n) _ md_207 21 [some (.inr (.inr 103)), some (.inl k), some (.inl 1), none] [.inl (τ 103 8)] τ _
        refine jw_W_n 1 (i' := 22) (ls' := [some (.inr (.inr 103)), some (.inl k), some (.inl 1), none]) (st' := [.inr (.inr 103), .inl (τ 103 8)]) rfl ?_
        refine jw_W_gf rfl rfl rfl ?_
        show jw_W (js_S n) _ md_207 23 [some (.inr (.inr 103)), some (.inl k), some (.inl 1), none] [.inl (τ 103 9), .inl (τ 103 8)] τ _
        refine jw_W_ic rfl (by unfold jw_rg; omega) (by unfold jw_rg; omega) (fun hc2 => ?_) (fun hc2 => ?_)
        · have hc2 : (τ 103 8) ≥ (τ 103 9) := hc2
          exact hQ _ _ (by rw [← hP, jl_rls_no (fun hh => by omega) f]; exact hlq)
        · have hc2 : ¬ ((τ 103 8) ≥ (τ 103 9)) := hc2
          refine jw_W_n 2 (i' := 26) (ls' := [some (.inr (.inr 103)), some (.inl k), some (.inl 1), none]) (st' := [.inl 59, .inr (.inr 103)]) rfl ?_
          refine jw_W_call (as := [.inr (.inr 103), .inl 59]) (rest := []) rfl rfl rfl rfl (Nat.le_of_ble_eq_true rfl) (.inr rfl) (jk_takes ht (x := 59) (by unfold jw_rg; omega)) (by omega) ?_ rfl
          rintro r1 σ1 (⟨rfl, h59, hs1⟩ | ⟨rfl, h59, hs1⟩)
          · rename jw_H => σ1
            rw [em, h8] at h59
            rw [h8] at hs1
            have hU1 := jo_ru_to hU0 hs1 (by omega)
            have g1 : jo_g τ σ1 := by rw [hs1]; exact jo_g_up (jo_g_rf τ) (by omega)
            show jw_W (js_S n) _ md_207 27 [some (.inr (.inr 103)), some (.inl k), some (.inl 1), none] [.inl 1] σ1 _
            refine jw_W_if rfl (by unfold jw_rg; omega) (fun hc3 => ?_) (fun hc3 => ?_)
            · exact absurd hc3 (show ¬ ((1 : Int) = 0) by omega)
            · clear hc3
              refine jw_W_n 1 (i' := 29) (ls' := [some (.inr (.inr 103)), some (.inl k), some (.inl 1), none]) (st' := [.inr (.inr 103)]) rfl ?_
              refine jw_W_call (as := [.inr (.inr 103)]) (rest := []) rfl rfl rfl rfl (Nat.le_of_ble_eq_true rfl) (.inr rfl) (jo_rz_or (jo_readsRule hU1)) (by omega) ?_ rfl
              rintro r1 σ2 (⟨rfl, hz⟩ | ⟨rfl, hz⟩)
              · rename jw_H => σ2
                show jw_W (js_S n) _ md_207 30 [some (.inr (.inr 103)), some (.inl k), some (.inl 1), none] [.inl 0] σ2 _
                refine jw_W_if rfl (by unfold jw_rg; omega) (fun hc4 => ?_) (fun hc4 => ?_)
                · clear hc4
                  refine jw_W_n 3 (i' := 17) (ls' := [some (.inr (.inr 103)), some (.inl k), some (.inl 0), none]) (st' := []) rfl ?_
                  exact go h59 (by omega) (jo_g_tr g1 (hz.elim (fun w => w.2.2.1) (fun w => w.2.2.1))) (by omega) hz
                · exact absurd hc4 (show ¬ ¬ ((0 : Int) = 0) by omega)
              · rename jw_H => σ2
                show jw_W (js_S n) _ md_207 30 [some (.inr (.inr 103)), some (.inl k), some (.inl 1), none] [.inl 1] σ2 _
                refine jw_W_if rfl (by unfold jw_rg; omega) (fun hc5 => ?_) (fun hc5 => ?_)
                · exact absurd hc5 (show ¬ ((1 : Int) = 0) by omega)
                · clear hc5
                  refine jw_W_n 4 (i' := 17) (ls' := [some (.inr (.inr 103)), some (.inl k), some (.inl 1), none]) (st' := []) rfl ?_
                  exact go h59 (by omega) (jo_g_tr g1 (hz.elim (fun w => w.2.2.1) (fun w => w.2.2.1))) (by omega) hz
          · rename jw_H => σt
            rw [em, h8] at h59
            rw [h8] at hs1
            show jw_W (js_S n) _ md_207 27 [some (.inr (.inr 103)), some (.inl k), some (.inl 1), none] [.inl 0] σt _
            refine jw_W_if rfl (by unfold jw_rg; omega) (fun hc6 => ?_) (fun hc6 => ?_)
            · clear hc6
              refine jw_W_n 3 (i' := 17) (ls' := [some (.inr (.inr 103)), some (.inl k), some (.inl 0), none]) (st' := []) rfl ?_
              exact bad h59 (by omega) hs1
            · exact absurd hc6 (show ¬ ¬ ((0 : Int) = 0) by omega)
def jo_cp (σ0 σ : jw_H) (a c : Int) : Prop := (∀ o, (o < 114 ∨ 118 < o) → σ o = σ0 o) ∧ (∀ j, 0 ≤ j → j < a → σ 114 j = σ0 108 j) ∧ ∀ j, 0 ≤ j → j < c → σ 115 j = σ0 110 j ∧ σ 116 j = σ0 111 j ∧ σ 117 j = σ0 112 j ∧ σ 118 j = σ0 113 j
theorem jo_cp_a {σ0 σ υ : jw_H} {a : Int} (h : jo_cp σ0 σ a 0) (hυ : υ = jw_up σ 114 a (σ 108 a)) : jo_cp σ0 υ (a + 1) 0 := by
  refine ⟨fun o ho => by rw [hυ, jw_up_out _ _ _ (by omega)]; exact h.1 o ho, fun j j0 j1 => ?_, fun j j0 j1 => by omega⟩
  by_cases e : j = a
  · rw [e, hυ, jw_up_eq, h.1 108 (by omega)]
  · rw [hυ, jw_up_ne _ (by omega)]
    exact h.2.1 j j0 (by omega)
theorem jo_cp_c {σ0 σ υ : jw_H} {a c : Int} (h : jo_cp σ0 σ a c) (hυ : υ = jw_up (jw_up (jw_up (jw_up σ 115 c (σ 110 c)) 116 c (σ 111 c)) 117 c (σ 112 c)) 118 c (σ 113 c)) : jo_cp σ0 υ a (c + 1) := by
  refine ⟨fun o ho => by rw [hυ, jw_up_out _ _ _ (by omega), jw_up_out _ _ _ (by omega), jw_up_out _ _ _ (by omega), jw_up_out _ _ _ (by omega)]; exact h.1 o ho, fun j j0 j1 => by rw [hυ, jw_up_out _ _ _ (by omega), jw_up_out _ _ _ (by omega), jw_up_out _ _ _ (by omega), jw_up_out _ _ _ (by omega)]; exact h.2.1 j j0 j1, fun j j0 j1 => ?_⟩
  by_cases e : j = c
  · rw [e, hυ]
    refine ⟨?_, ?_, ?_, ?_⟩
    · rw [jw_up_out _ _ _ (by omega), jw_up_out _ _ _ (by omega), jw_up_out _ _ _ (by omega), jw_up_eq, h.1 110 (by omega)]
    · rw [jw_up_out _ _ _ (by omega), jw_up_out _ _ _ (by omega), jw_up_eq, h.1 111 (by omega)]
    · rw [jw_up_out _ _ _ (by omega), jw_up_eq, h.1 112 (by omega)]
    · rw [jw_up_eq, h.1 113 (by omega)]
  · have := h.2.2 j j0 (by omega)
    rw [hυ]
    refine ⟨?_, ?_, ?_, ?_⟩
    · rw [jw_up_out _ _ _ (by omega), jw_up_out _ _ _ (by omega), jw_up_out _ _ _ (by omega), jw_up_ne _ (by omega)]
      exact this.1
    · rw [jw_up_out _ _ _ (by omega), jw_up_out _ _ _ (by omega), jw_up_ne _ (by omega), jw_up_out _ _ _ (by omega)]
      exact this.2.1
    · rw [jw_up_out _ _ _ (by omega), jw_up_ne _ (by omega), jw_up_out _ _ _ (by omega), jw_up_out _ _ _ (by omega)]
      exact this.2.2.1
    · rw [jw_up_ne _ (by omega), jw_up_out _ _ _ (by omega), jw_up_out _ _ _ (by omega), jw_up_out _ _ _ (by omega)]
      exact this.2.2.2
theorem jo_law_a {n : Nat} {σ0 : jw_H} {D : Nat} {k N : Int} {Q : Option jw_V → jw_H → Prop} (hN : 0 ≤ N ∧ N ≤ 260) (h13 : σ0 103 13 = N) (hQ : ∀ σ, jo_cp σ0 σ N 0 → jw_W (js_S n) D md_207 64 [some (.inr (.inr 103)), some (.inl k), some (.inl 1), some (.inl N)] [] σ Q) : ∀ (f : Nat) {σ : jw_H} {j : Int}, 0 ≤ j → j + (f : Int) = N → jo_cp σ0 σ j 0 → jw_W (js_S n) D md_207 50 [some (.inr (.inr 103)), some (.inl k), some (.inl 1), some (.inl j)] [] σ Q
  | f, σ, j, j0, hk, H => by
    have e13 : σ 103 13 = N := by rw [H.1 103 (by omega)]; exact h13
    have ih : ∀ {σ' : jw_H}, j < N → jo_cp σ0 σ' (j + 1) 0 → jw_W (js_S n) D md_207 50 [some (.inr (.inr 103)), some (.inl k), some (.inl 1), some (.inl (j + 1))] [] σ' Q := by
      intro σ' h1 h2
      match f, hk with
      | 0, hk => omega
      | f + 1, hk => exact jo_law_a hN h13 hQ f (by omega) (by omega) h2
    refine jw_W_n 2 (i' := 52) (ls' := [some (.inr (.inr 103)), some (.inl k), some (.inl 1), some (.inl j)]) (st' := [.inr (.inr 103), .inl j]) rfl ?_
    refine jw_W_gf rfl rfl rfl ?_
    show jw_W (js_S n) _ md_207 53 [some (.inr (.inr 103)), some (.inl k), some (.inl 1), some (.inl j)] [.inl (σ 103 13), .inl j] σ _
    refine jw_W_ic rfl (by unfold jw_rg; omega) (by unfold jw_rg; omega) (fun hc1 => ?_) (fun hc1 => ?_)
    · have hc1 : j ≥ (σ 103 13) := hc1
      have hkl : j = N := by omega
      subst hkl
      exact hQ σ H
    · have hc1 : ¬ (j ≥ (σ 103 13)) := hc1
      refine jw_W_n 1 (i' := 55) (ls' := [some (.inr (.inr 103)), some (.inl k), some (.inl 1), some (.inl j)]) (st' := [.inr (.inr 103)]) rfl ?_
      refine jw_W_gf rfl rfl rfl ?_
      show jw_W (js_S n) _ md_207 56 [some (.inr (.inr 103)), some (.inl k), some (.inl 1), some (.inl j)] [.inr (.inr 114)] σ _
      refine jw_W_n 2 (i' := 58) (ls' := [some (.inr (.inr 103)), some (.inl k), some (.inl 1), some (.inl j)]) (st' := [.inr (.inr 103), .inl j, .inr (.inr 114)]) rfl ?_
      refine jw_W_gf rfl rfl rfl ?_
      show jw_W (js_S n) _ md_207 59 [some (.inr (.inr 103)), some (.inl k), some (.inl 1), some (.inl j)] [.inr (.inr 108), .inl j, .inr (.inr 114)] σ _
      refine jw_W_n 1 (i' := 60) (ls' := [some (.inr (.inr 103)), some (.inl k), some (.inl 1), some (.inl j)]) (st' := [.inl j, .inr (.inr 108), .inl j, .inr (.inr 114)]) rfl ?_
      refine jw_W_ia rfl rfl (by omega) (by omega) (by omega) ?_
      show jw_W (js_S n) _ md_207 61 [some (.inr (.inr 103)), some (.inl k), some (.inl 1), some (.inl j)] [.inl (σ 108 j), .inl j, .inr (.inr 114)] σ _
      refine jw_W_is rfl (by omega) rfl (by omega) (by omega) (by omega) ?_
      refine jw_W_n 2 (i' := 50) (ls' := [some (.inr (.inr 103)), some (.inl k), some (.inl 1), some (.inl (j + 1))]) (st' := []) rfl ?_
      exact ih (by omega) (jo_cp_a H rfl)
theorem jo_law_c {n : Nat} {σ0 : jw_H} {D : Nat} {k N M : Int} {Q : Option jw_V → jw_H → Prop} (hM : 0 ≤ M ∧ M ≤ 16) (h15 : σ0 103 15 = M) (hQ : ∀ σ, jo_cp σ0 σ N M → Q (some (.inl M)) σ) : ∀ (f : Nat) {σ : jw_H} {j : Int}, 0 ≤ j → j + (f : Int) = M → jo_cp σ0 σ N j → jw_W (js_S n) D md_207 66 [some (.inr (.inr 103)), some (.inl k), some (.inl 1), some (.inl j)] [] σ Q
  | f, σ, j, j0, hk, H => by
    have e15 : σ 103 15 = M := by rw [H.1 103 (by omega)]; exact h15
    have ih : ∀ {σ' : jw_H}, j < M → jo_cp σ0 σ' N (j + 1) → jw_W (js_S n) D md_207 66 [some (.inr (.inr 103)), some (.inl k), some (.inl 1), some (.inl (j + 1))] [] σ' Q := by
      intro σ' h1 h2
      match f, hk with
      | 0, hk => omega
      | f + 1, hk => exact jo_law_c hM h15 hQ f (by omega) (by omega) h2
    refine jw_W_n 2 (i' := 68) (ls' := [some (.inr (.inr 103)), some (.inl k), some (.inl 1), some (.inl j)]) (st' := [.inr (.inr 103), .inl j]) rfl ?_
    refine jw_W_gf rfl rfl rfl ?_
    show jw_W (js_S n) _ md_207 69 [some (.inr (.inr 103)), some (.inl k), some (.inl 1), some (.inl j)] [.inl (σ 103 15), .inl j] σ _
    refine jw_W_ic rfl (by unfold jw_rg; omega) (by unfold jw_rg; omega) (fun hc1 => ?_) (fun hc1 => ?_)
    · have hc1 : j ≥ (σ 103 15) := hc1
      refine jw_W_n 1 (i' := 105) (ls' := [some (.inr (.inr 103)), some (.inl k), some (.inl 1), some (.inl j)]) (st' := [.inr (.inr 103)]) rfl ?_
      refine jw_W_gf rfl rfl rfl ?_
      show jw_W (js_S n) _ md_207 106 [some (.inr (.inr 103)), some (.inl k), some (.inl 1), some (.inl j)] [.inl (σ 103 15)] σ _
      refine jw_W_ir rfl ?_
      have hkl : j = M := by omega
      subst hkl
      rw [e15]
      exact hQ σ H
    · have hc1 : ¬ (j ≥ (σ 103 15)) := hc1
      refine jw_W_n 1 (i' := 71) (ls' := [some (.inr (.inr 103)), some (.inl k), some (.inl 1), some (.inl j)]) (st' := [.inr (.inr 103)]) rfl ?_
      refine jw_W_gf rfl rfl rfl ?_
      show jw_W (js_S n) _ md_207 72 [some (.inr (.inr 103)), some (.inl k), some (.inl 1), some (.inl j)] [.inr (.inr 115)] σ _
      refine jw_W_n 2 (i' := 74) (ls' := [some (.inr (.inr 103)), some (.inl k), some (.inl 1), some (.inl j)]) (st' := [.inr (.inr 103), .inl j, .inr (.inr 115)]) rfl ?_
      refine jw_W_gf rfl rfl rfl ?_
      show jw_W (js_S n) _ md_207 75 [some (.inr (.inr 103)), some (.inl k), some (.inl 1), some (.inl j)] [.inr (.inr 110), .inl j, .inr (.inr 115)] σ _
      refine jw_W_n 1 (i' := 76) (ls' := [some (.inr (.inr 103)), some (.inl k), some (.inl 1), some (.inl j)]) (st' := [.inl j, .inr (.inr 110), .inl j, .inr (.inr 115)]) rfl ?_
      refine jw_W_ia rfl rfl (by omega) (by omega) (by omega) ?_
      show jw_W (js_S n) _ md_207 77 [some (.inr (.inr 103)), some (.inl k), some (.inl 1), some (.inl j)] [.inl (σ 110 j), .inl j, .inr (.inr 115)] σ _
      refine jw_W_is rfl (by omega) rfl (by omega) (by omega) (by omega) ?_
      refine jw_W_n 1 (i' := 79) (ls' := [some (.inr (.inr 103)), some (.inl k), some (.inl 1), some (.inl j)]) (st' := [.inr (.inr 103)]) rfl ?_
      refine jw_W_gf rfl rfl rfl ?_
      show jw_W (js_S n) _ md_207 80 [some (.inr (.inr 103)), some (.inl k), some (.inl 1), some (.inl j)] [.inr (.inr 116)] ((jw_up σ 115 j (σ 110 j))) _
      refine jw_W_n 2 (i' := 82) (ls' := [some (.inr (.inr 103)), some (.inl k), some (.inl 1), some (.inl j)]) (st' := [.inr (.inr 103), .inl j, .inr (.inr 116)]) rfl ?_
      refine jw_W_gf rfl rfl rfl ?_
      show jw_W (js_S n) _ md_207 83 [some (.inr (.inr 103)), some (.inl k), some (.inl 1), some (.inl j)] [.inr (.inr 111), .inl j, .inr (.inr 116)] ((jw_up σ 115 j (σ 110 j))) _
      refine jw_W_n 1 (i' := 84) (ls' := [some (.inr (.inr 103)), some (.inl k), some (.inl 1), some (.inl j)]) (st' := [.inl j, .inr (.inr 111), .inl j, .inr (.inr 116)]) rfl ?_
      refine jw_W_ia rfl rfl (by omega) (by omega) (by omega) ?_
      show jw_W (js_S n) _ md_207 85 [some (.inr (.inr 103)), some (.inl k), some (.inl 1), some (.inl j)] [.inl (σ 111 j), .inl j, .inr (.inr 116)] ((jw_up σ 115 j (σ 110 j))) _
      refine jw_W_is rfl (by omega) rfl (by omega) (by omega) (by omega) ?_
      refine jw_W_n 1 (i' := 87) (ls' := [some (.inr (.inr 103)), some (.inl k), some (.inl 1), some (.inl j)]) (st' := [.inr (.inr 103)]) rfl ?_
      refine jw_W_gf rfl rfl rfl ?_
      show jw_W (js_S n) _ md_207 88 [some (.inr (.inr 103)), some (.inl k), some (.inl 1), some (.inl j)] [.inr (.inr 117)] ((jw_up (jw_up σ 115 j (σ 110 j)) 116 j (σ 111 j))) _
      refine jw_W_n 2 (i' := 90) (ls' := [some (.inr (.inr 103)), some (.inl k), some (.inl 1), some (.inl j)]) (st' := [.inr (.inr 103), .inl j, .inr (.inr 117)]) rfl ?_
      refine jw_W_gf rfl rfl rfl ?_
      show jw_W (js_S n) _ md_207 91 [some (.inr (.inr 103)), some (.inl k), some (.inl 1), some (.inl j)] [.inr (.inr 112), .inl j, .inr (.inr 117)] ((jw_up (jw_up σ 115 j (σ 110 j)) 116 j (σ 111 j))) _
      refine jw_W_n 1 (i' := 92) (ls' := [some (.inr (.inr 103)), some (.inl k), some (.inl 1), some (.inl j)]) (st' := [.inl j, .inr (.inr 112), .inl j, .inr (.inr 117)]) rfl ?_
      refine jw_W_ia rfl rfl (by omega) (by omega) (by omega) ?_
      show jw_W (js_S n) _ md_207 93 [some (.inr (.inr 103)), some (.inl k), some (.inl 1), some (.inl j)] [.inl (σ 112 j), .inl j, .inr (.inr 117)] ((jw_up (jw_up σ 115 j (σ 110 j)) 116 j (σ 111 j))) _
      refine jw_W_is rfl (by omega) rfl (by omega) (by omega) (by omega) ?_
      refine jw_W_n 1 (i' := 95) (ls' := [some (.inr (.inr 103)), some (.inl k), some (.inl 1), some (.inl j)]) (st' := [.inr (.inr 103)]) rfl ?_
      refine jw_W_gf rfl rfl rfl ?_
      show jw_W (js_S n) _ md_207 96 [some (.inr (.inr 103)), some (.inl k), some (.inl 1), some (.inl j)] [.inr (.inr 118)] ((jw_up (jw_up (jw_up σ 115 j (σ 110 j)) 116 j (σ 111 j)) 117 j (σ 112 j))) _
      refine jw_W_n 2 (i' := 98) (ls' := [some (.inr (.inr 103)), some (.inl k), some (.inl 1), some (.inl j)]) (st' := [.inr (.inr 103), .inl j, .inr (.inr 118)]) rfl ?_
      refine jw_W_gf rfl rfl rfl ?_
      show jw_W (js_S n) _ md_207 99 [some (.inr (.inr 103)), some (.inl k), some (.inl 1), some (.inl j)] [.inr (.inr 113), .inl j, .inr (.inr 118)] ((jw_up (jw_up (jw_up σ 115 j (σ 110 j)) 116 j (σ 111 j)) 117 j (σ 112 j))) _
      refine jw_W_n 1 (i' := 100) (ls' := [some (.inr (.inr 103)), some (.inl k), some (.inl 1), some (.inl j)]) (st' := [.inl j, .inr (.inr 113), .inl j, .inr (.inr 118)]) rfl ?_
      refine jw_W_ia rfl rfl (by omega) (by omega) (by omega) ?_
      show jw_W (js_S n) _ md_207 101 [some (.inr (.inr 103)), some (.inl k), some (.inl 1), some (.inl j)] [.inl (σ 113 j), .inl j, .inr (.inr 118)] ((jw_up (jw_up (jw_up σ 115 j (σ 110 j)) 116 j (σ 111 j)) 117 j (σ 112 j))) _
      refine jw_W_is rfl (by omega) rfl (by omega) (by omega) (by omega) ?_
      refine jw_W_n 2 (i' := 66) (ls' := [some (.inr (.inr 103)), some (.inl k), some (.inl 1), some (.inl (j + 1))]) (st' := []) rfl ?_
      exact ih (by omega) (jo_cp_c H rfl)
/-- the law as the reference leaves it -/
def jo_lr (σ : jw_H) (L : Int × Int × List jl_Q) (σ' : jw_H) : Prop := (∀ c, c ≠ 103 → (c < 108 ∨ 118 < c) → σ' c = σ c) ∧ (∀ j, (j < 7 ∨ 16 < j) → σ' 103 j = σ 103 j) ∧ σ' 103 7 = 0 ∧ (L.1 ≠ 0 → σ' 103 16 = σ 103 16 ∧ ∀ c, 114 ≤ c → c ≤ 118 → σ' c = σ c) ∧ (L.1 = 0 → jl_mc σ' L.2.2)
theorem jo_lr_mc {b : Int → Int} {m i : Int} {L : List jl_Q} {c : jo_C} {σ τ σ' : jw_H} (hU : jo_ru b m i L c σ) (hc : jo_cp τ σ' (c.length : Int) (L.length : Int)) (e : ∀ o, o ≠ 103 → τ o = σ o) (e16 : τ 103 16 = (L.length : Int)) : jl_mc σ' L := by
  obtain ⟨ht, em, h240, h8, hi, h13, hcl, hcr, h15, hl16, hru⟩ := hU
  refine ⟨by rw [hc.1 103 (by omega)]; exact e16, hl16, fun t q hq => ?_⟩
  obtain ⟨r1, r2, r3, r4, r5, r6, r7, r8, r9, r10⟩ := hru t q hq
  have htl := (List.getElem?_eq_some_iff.mp hq).1
  obtain ⟨k1, k2, k3, k4⟩ := hc.2.2 (t : Int) (by omega) (by omega)
  rw [e _ (by omega)] at k1 k2 k3 k4
  have hp1 := jo_gd_pos r8
  have hpA : ∀ (j : Nat) (y : Int × Int), (q.2.1 ++ q.2.2)[j]? = some y → (y ∈ q.2.2 ∨ q.1 = 118) → σ' 114 (σ 111 (t : Int) + (j : Int)) = jl_wd y (σ 111 (t : Int) + (j : Int)) := by
    intro j y hy hor
    have hcy := r7 j y hy
    have hlt := (List.getElem?_eq_some_iff.mp hcy).1
    have ho := hcr _ y hcy
    rw [show (((σ 111 (t : Int)).toNat + j : Nat) : Int) = σ 111 (t : Int) + (j : Int) by omega] at ho
    rw [hc.2.1 _ (by omega) (by omega), e 108 (by omega), ho.1]
    refine jo_wd_eq ?_
    rcases List.mem_append.mp (List.mem_of_getElem? hy) with hm | hm
    · rcases hor with hm2 | h118
      · exact hp1 y hm2
      · exact jo_gd_pos (r9 h118) y hm
    · exact hp1 y hm
  refine ⟨by rw [k1]; exact r1, r2, by rw [k2]; exact r3, by rw [k3, k2]; exact r4, by rw [k4, k3]; exact r5, by rw [k4]; omega, ?_, ?_, r8, r9⟩
  · intro j y hy
    rw [k2]
    have hA : (q.2.1 ++ q.2.2)[j]? = some y := by
      rw [List.getElem?_append_left (List.getElem?_eq_some_iff.mp hy).1]
      exact hy
    refine hpA j y hA ?_
    rcases r2 with h | h
    · exact .inr h
    · rw [r10 h, List.getElem?_nil] at hy
      cases hy
  · intro j y hy
    rw [k3, r4]
    have hB : (q.2.1 ++ q.2.2)[q.2.1.length + j]? = some y := by
      rw [List.getElem?_append_right (by omega), show q.2.1.length + j - q.2.1.length = j by omega]
      exact hy
    have := hpA _ y hB (.inl (List.mem_of_getElem? hy))
    rw [show σ 111 (t : Int) + (q.2.1.length : Int) + (j : Int) = σ 111 (t : Int) + ((q.2.1.length + j : Nat) : Int) by omega]
    exact this
theorem jo_law_36 {n D : Nat} {b : Int → Int} {k : Int} {σ σ1 : jw_H} (hb1 : ∀ c, c ≠ 103 → σ1 c = σ c) (hb2 : ∀ j, j ≠ 8 → j ≠ 9 → j ≠ 13 → j ≠ 15 → σ1 103 j = σ 103 j) : ∀ (τ : jw_H) (v : Int), jo_lq b k σ1 (jl_law b k) v τ → jw_W (js_S n) D md_207 36 [some (.inr (.inr 103)), some (.inl k), some (.inl v), none] [] τ (fun r σ' => r = some (.inl (if (jl_law b k).1 = 0 then ((jl_law b k).2.2.length : Int) else (jl_law b k).1)) ∧ jo_lr σ (jl_law b k) σ') := by
  intro τ v hlq
  obtain ⟨hg, ⟨rfl, h1, h2⟩ | ⟨rfl, h1, c, hU⟩⟩ := hlq
  · skip
    refine jw_W_n 2 (i' := 38) (ls' := [some (.inr (.inr 103)), some (.inl k), some (.inl 0), none]) (st' := [.inl 0, .inr (.inr 103)]) rfl ?_
    refine jw_W_pf (a := 0) rfl (by omega) rfl rfl rfl rfl rfl ?_
    refine jw_W_n 1 (i' := 40) (ls' := [some (.inr (.inr 103)), some (.inl k), some (.inl 0), none]) (st' := [.inl 0]) rfl ?_
    refine jw_W_if rfl (by unfold jw_rg; omega) (fun hc1 => ?_) (fun hc1 => ?_)
    · exact absurd hc1 (show ¬ ((0 : Int) ≠ 0) by omega)
    · clear hc1
      refine jw_W_n 1 (i' := 42) (ls' := [some (.inr (.inr 103)), some (.inl k), some (.inl 0), none]) (st' := [.inr (.inr 103)]) rfl ?_
      refine jw_W_gf rfl rfl rfl ?_
      show jw_W (js_S n) _ md_207 43 [some (.inr (.inr 103)), some (.inl k), some (.inl 0), none] [.inl (τ 103 10)] ((jw_up τ 103 7 0)) _
      refine jw_W_ir rfl ?_
      refine ⟨by rw [if_neg h1, ← h2], fun c d1 d2 => ?_, fun j hj => ?_, jw_up_eq _ _ _ _, fun _ => ⟨?_, fun c d1 d2 => ?_⟩, fun h => absurd h h1⟩
      · rw [jw_up_out _ _ _ d1, hg.1 c d1 (by omega)]
        exact hb1 c d1
      · rw [jw_up_ne _ (by omega), hg.2 j (by omega) (by omega)]
        exact hb2 j (by omega) (by omega) (by omega) (by omega)
      · rw [jw_up_ne _ (by omega), hg.2 16 (by omega) (by omega)]
        exact hb2 16 (by omega) (by omega) (by omega) (by omega)
      · rw [jw_up_out _ _ _ (by omega), hg.1 c (by omega) (by omega)]
        exact hb1 c (by omega)
  · have hU0 := hU
    obtain ⟨ht, em, h240, h8, hi, h13, hcl, hc, h15, hl16, hru⟩ := hU
    refine jw_W_n 2 (i' := 38) (ls' := [some (.inr (.inr 103)), some (.inl k), some (.inl 1), none]) (st' := [.inl 0, .inr (.inr 103)]) rfl ?_
    refine jw_W_pf (a := 0) rfl (by omega) rfl rfl rfl rfl rfl ?_
    refine jw_W_n 1 (i' := 40) (ls' := [some (.inr (.inr 103)), some (.inl k), some (.inl 1), none]) (st' := [.inl 1]) rfl ?_
    refine jw_W_if rfl (by unfold jw_rg; omega) (fun hc1 => ?_) (fun hc1 => ?_)
    · clear hc1
      refine jw_W_n 2 (i' := 46) (ls' := [some (.inr (.inr 103)), some (.inl k), some (.inl 1), none]) (st' := [.inr (.inr 103), .inr (.inr 103)]) rfl ?_
      refine jw_W_gf rfl rfl rfl ?_
      show jw_W (js_S n) _ md_207 47 [some (.inr (.inr 103)), some (.inl k), some (.inl 1), none] [.inl (τ 103 15), .inr (.inr 103)] ((jw_up τ 103 7 0)) _
      refine jw_W_pf (a := τ 103 15) rfl (by omega) rfl rfl rfl rfl rfl ?_
      refine jw_W_n 2 (i' := 50) (ls' := [some (.inr (.inr 103)), some (.inl k), some (.inl 1), some (.inl 0)]) (st' := []) rfl ?_
      obtain ⟨τ2, hs2⟩ : ∃ s : jw_H, s = jw_up (jw_up τ 103 7 0) 103 16 (τ 103 15) := ⟨_, rfl⟩
      show jw_W (js_S n) _ _ _ _ _ (jw_up (jw_up τ 103 7 0) 103 16 (τ 103 15)) _
      rw [← hs2]
      refine jo_law_a (σ0 := τ2) (N := (c.length : Int)) (by omega) (by rw [hs2]; exact h13) (fun σ2 hc2 => ?_) c.length (by omega) (by omega) ⟨fun _ _ => rfl, fun j j0 j1 => by omega, fun j j0 j1 => by omega⟩
      refine jw_W_n 2 (i' := 66) (ls' := [some (.inr (.inr 103)), some (.inl k), some (.inl 1), some (.inl 0)]) (st' := []) rfl ?_
      refine jo_law_c (σ0 := τ2) (N := (c.length : Int)) (M := ((jl_law b k).2.2.length : Int)) (by omega) (by rw [hs2]; exact h15) (fun σ3 hc3 => ?_) (jl_law b k).2.2.length (by omega) (by omega) hc2
      have hmc := jo_lr_mc (τ := τ2) hU0 hc3 (fun o d => by rw [hs2, jw_up_out _ _ _ d, jw_up_out _ _ _ d]) (by rw [hs2, jw_up_eq]; exact h15)
      refine ⟨by rw [if_pos h1], fun c d1 d2 => ?_, fun j hj => ?_, ?_, fun h => absurd h1 h, fun _ => hmc⟩
      · rw [hc3.1 c (by omega), hs2, jw_up_out _ _ _ d1, jw_up_out _ _ _ d1, hg.1 c d1 (by omega)]
        exact hb1 c d1
      · rw [hc3.1 103 (by omega), hs2, jw_up_ne _ (by omega), jw_up_ne _ (by omega), hg.2 j (by omega) (by omega)]
        exact hb2 j (by omega) (by omega) (by omega) (by omega)
      · rw [hc3.1 103 (by omega), hs2, jw_up_ne _ (by omega), jw_up_eq]
    · exact absurd hc1 (show ¬ ¬ ((1 : Int) ≠ 0) by omega)
theorem jo_lawR {n : Nat} {σ : jw_H} {b : Int → Int} {k : Int} (hk : jw_rg k) (h7 : 0 ≤ σ 103 7 ∧ σ 103 7 ≤ 260) (hb : ∀ j, 0 ≤ j → j < σ 103 7 → jw_and (σ 107 j) 255 = b j ∧ (-128 ≤ σ 107 j ∧ σ 107 j ≤ 127) ∧ 0 ≤ b j ∧ b j ≤ 255)  : jw_T (js_S n) 9 207 [.inr (.inr 103), .inl k] σ (fun r σ' => (¬ (1 ≤ k ∧ k ≤ 240 ∧ k ≤ σ 103 7) ∧ r = some (.inl (-1)) ∧ σ' = σ) ∨ ((1 ≤ k ∧ k ≤ 240 ∧ k ≤ σ 103 7) ∧ r = some (.inl (if (jl_law b k).1 = 0 then ((jl_law b k).2.2.length : Int) else (jl_law b k).1)) ∧ jo_lr σ (jl_law b k) σ')) := by
  refine jw_T_of (D := 8) (M := mm_207) rfl (Nat.le_of_ble_eq_true rfl) (ls0 := [some (.inr (.inr 103)), some (.inl k), none, none]) rfl ?_ (by rintro _ _ (⟨-, rfl, -⟩ | ⟨-, rfl, -⟩) <;> rfl)
  have rk := hk
  unfold jw_rg at rk
  have first : ∀ {σ1 σ2 : jw_H} {v : Int}, (∀ c, c ≠ 103 → σ1 c = σ c) → (∀ j, j ≠ 8 → j ≠ 9 → j ≠ 13 → j ≠ 15 → σ1 103 j = σ 103 j) → jo_rz b k 0 [] [] σ1 (some (.inl v)) σ2 → (v = 0 ∨ v = 1) → k ≤ 240 → jw_W (js_S n) 8 md_207 17 [some (.inr (.inr 103)), some (.inl k), some (.inl v), none] [] σ2 (fun r σ' => r = some (.inl (if (jl_law b k).1 = 0 then ((jl_law b k).2.2.length : Int) else (jl_law b k).1)) ∧ jo_lr σ (jl_law b k) σ') := by
    intro σ1 σ2 v b1 b2 hz hv hk240
    have hgt := jl_rl_ok (b := b) (m := k) (c := 0) (i := 0) (by omega)
    refine jo_law_loop (Nat.le_refl 8) (jo_law_36 b1 b2) 300 (R := ((jl_rl b k 0 0).1, (jl_rl b k 0 0).2.1, [(jl_rl b k 0 0).2.2])) ?_ (fun hq => ?_) rfl
    · rcases hz with ⟨hv0, hz1, hg, hz2⟩ | ⟨hv0, hz1, hg, c', hz2⟩
      · exact ⟨hg, .inl ⟨jo_ne hv0, hz1, hz2⟩⟩
      · exact ⟨hg, .inr ⟨jo_ne hv0, hz1, c', hz2⟩⟩
    · have := hgt hq
      show k < (jl_rl b k 0 0).2.1 + ((300 : Nat) : Int)
      omega
  refine jw_W_n 3 (i' := 3) (ls' := [some (.inr (.inr 103)), some (.inl k), none, none]) (st' := [.inl 240, .inl 1, .inl k]) rfl ?_
  refine jw_W_call (as := [.inl k, .inl 1, .inl 240]) (rest := []) rfl rfl rfl rfl (Nat.le_of_ble_eq_true rfl) (.inl rfl) (jm_in (by unfold jw_rg; omega) (by unfold jw_rg; omega) (by unfold jw_rg; omega)) (by omega) ?_ rfl
  rintro r1 σz (⟨rfl, hs, hin⟩ | ⟨rfl, hs, hin⟩)
  · rw [hs]
    show jw_W (js_S n) _ md_207 4 [some (.inr (.inr 103)), some (.inl k), none, none] [.inl 1] σ _
    refine jw_W_if rfl (by unfold jw_rg; omega) (fun hc1 => ?_) (fun hc1 => ?_)
    · exact absurd hc1 (show ¬ ((1 : Int) = 0) by omega)
    · clear hc1
      refine jw_W_n 2 (i' := 7) (ls' := [some (.inr (.inr 103)), some (.inl k), none, none]) (st' := [.inr (.inr 103), .inl k]) rfl ?_
      refine jw_W_gf rfl rfl rfl ?_
      show jw_W (js_S n) _ md_207 8 [some (.inr (.inr 103)), some (.inl k), none, none] [.inl (σ 103 7), .inl k] σ _
      refine jw_W_ic rfl (by unfold jw_rg; omega) (by unfold jw_rg; omega) (fun hc2 => ?_) (fun hc2 => ?_)
      · have hc2 : k ≤ (σ 103 7) := hc2
        refine jw_W_n 2 (i' := 13) (ls' := [some (.inr (.inr 103)), some (.inl k), none, none]) (st' := [.inl k, .inr (.inr 103)]) rfl ?_
        refine jw_W_call (as := [.inr (.inr 103), .inl k]) (rest := []) rfl rfl rfl rfl (Nat.le_of_ble_eq_true rfl) (.inr rfl) jk_beginsT (by omega) ?_ rfl
        rintro r1 σ1 ⟨rfl, hbt⟩
        rename jw_H => σ1
        obtain ⟨b1, b2, b3, b4, b5, b6⟩ := hbt
        have hU1 : jo_ru b k 0 [] [] σ1 := ⟨⟨by omega, by omega, fun j j0 j1 => by rw [b1 107 (by omega)]; exact hb j j0 (by omega)⟩, b4, by omega, b3, by omega, b5, by show ((0 : Nat) : Int) ≤ 0; omega, fun t q hq => absurd hq (by rw [List.getElem?_nil]; exact fun w => by cases w), b6, by show ((0 : Nat) : Int) ≤ 16; omega, fun t q hq => absurd hq (by rw [List.getElem?_nil]; exact fun w => by cases w)⟩
        show jw_W (js_S n) _ md_207 14 [some (.inr (.inr 103)), some (.inl k), none, none] [] σ1 _
        refine jw_W_n 1 (i' := 15) (ls' := [some (.inr (.inr 103)), some (.inl k), none, none]) (st' := [.inr (.inr 103)]) rfl ?_
        refine jw_W_call (as := [.inr (.inr 103)]) (rest := []) rfl rfl rfl rfl (Nat.le_of_ble_eq_true rfl) (.inr rfl) (jo_rz_or (jo_readsRule hU1)) (by omega) ?_ rfl
        rintro r1 σ2 (⟨rfl, hz⟩ | ⟨rfl, hz⟩)
        · rename jw_H => σ2
          show jw_W (js_S n) _ md_207 16 [some (.inr (.inr 103)), some (.inl k), none, none] [.inl 0] σ2 _
          refine jw_W_n 1 (i' := 17) (ls' := [some (.inr (.inr 103)), some (.inl k), some (.inl 0), none]) (st' := []) rfl ?_
          exact jw_W_mono (first b1 b2 hz (by omega) (by omega)) (fun r σ' hq => .inr ⟨by omega, hq⟩)
        · rename jw_H => σ2
          show jw_W (js_S n) _ md_207 16 [some (.inr (.inr 103)), some (.inl k), none, none] [.inl 1] σ2 _
          refine jw_W_n 1 (i' := 17) (ls' := [some (.inr (.inr 103)), some (.inl k), some (.inl 1), none]) (st' := []) rfl ?_
          exact jw_W_mono (first b1 b2 hz (by omega) (by omega)) (fun r σ' hq => .inr ⟨by omega, hq⟩)
      · have hc2 : ¬ (k ≤ (σ 103 7)) := hc2
        refine jw_W_n 1 (i' := 10) (ls' := [some (.inr (.inr 103)), some (.inl k), none, none]) (st' := [.inl ((-1))]) rfl ?_
        refine jw_W_ir rfl ?_
        exact .inl ⟨by omega, rfl, rfl⟩
  · rw [hs]
    show jw_W (js_S n) _ md_207 4 [some (.inr (.inr 103)), some (.inl k), none, none] [.inl 0] σ _
    refine jw_W_if rfl (by unfold jw_rg; omega) (fun hc3 => ?_) (fun hc3 => ?_)
    · clear hc3
      refine jw_W_n 1 (i' := 10) (ls' := [some (.inr (.inr 103)), some (.inl k), none, none]) (st' := [.inl ((-1))]) rfl ?_
      refine jw_W_ir rfl ?_
      exact .inl ⟨by omega, rfl, rfl⟩
    · exact absurd hc3 (show ¬ ¬ ((0 : Int) = 0) by omega)

/-! ===== the reference: most and worst of a wish ===== -/
/-- a corner has less of a wish than another one -/
def jm_wl (σ : jw_H) (w i j : Int) : Prop := ge_f (jm_W σ w) (jm_ct σ i) * σ 135 j < ge_f (jm_W σ w) (jm_ct σ j) * σ 135 i
theorem jm_wl_1 {σ : jw_H} {w i j k : Int} (wi : 0 < σ 135 i) (wj : 0 < σ 135 j) (wk : 0 < σ 135 k) (h1 : ¬ jm_wl σ w j i) (h2 : jm_wl σ w j k) : jm_wl σ w i k := by
  unfold jm_wl at *
  exact ge_fr_lt wi wj wk (by omega) (by omega) (.inr h2)
theorem jm_wl_2 {σ : jw_H} {w i j k : Int} (wi : 0 < σ 135 i) (wj : 0 < σ 135 j) (wk : 0 < σ 135 k) (h1 : jm_wl σ w i j) (h2 : ¬ jm_wl σ w k j) : jm_wl σ w i k := by
  unfold jm_wl at *
  exact ge_fr_lt wi wj wk (by omega) (by omega) (.inl h1)
theorem jm_wl_as {σ : jw_H} {w i j : Int} (h : jm_wl σ w i j) : ¬ jm_wl σ w j i := by
  unfold jm_wl at *
  omega
theorem jm_cw {σ : jw_H} (hb : jm_cbd σ) {i : Int} (i0 : 0 ≤ i) (i1 : i < σ 103 56) : 0 < σ 135 i := (hb.2 i i0 i1).1.2.2.2.1
/-- the first of those with most of a wish -/
def jm_mst (σ : jw_H) (w m b : Int) : Prop := (0 ≤ b ∧ b < m) ∧ ∀ i, 0 ≤ i → i < m → ¬ jm_wl σ w b i ∧ (i < b → jm_wl σ w i b)
theorem jm_mst_no {σ : jw_H} {w m b : Int} (h : jm_mst σ w m b) (hn : ¬ jm_wl σ w b m) : jm_mst σ w (m + 1) b := by
  refine ⟨by have := h.1; omega, fun i i0 i1 => ?_⟩
  by_cases e : i = m
  · rw [e]
    exact ⟨hn, fun hh => by have := h.1; omega⟩
  · exact h.2 i i0 (by omega)
theorem jm_mst_yes {σ : jw_H} (hb : jm_cbd σ) {w m b : Int} (m1 : m < σ 103 56) (h : jm_mst σ w m b) (hy : jm_wl σ w b m) : jm_mst σ w (m + 1) m := by
  obtain ⟨⟨b0, b1⟩, h⟩ := h
  refine ⟨by omega, fun i i0 i1 => ?_⟩
  by_cases e : i = m
  · rw [e]
    exact ⟨fun hh => by unfold jm_wl at hh; omega, fun hh => by omega⟩
  · have h1 := jm_wl_1 (jm_cw hb i0 (by omega)) (jm_cw hb b0 (by omega)) (jm_cw hb (by omega) m1) (h i i0 (by omega)).1 hy
    exact ⟨jm_wl_as h1, fun _ => h1⟩
def jm_good (σ : jw_H) (i : Int) : Prop := jb_in (σ 103 57) i.toNat
/-- the first of the efficient ones with least of a wish; none -/
def jm_wst (σ : jw_H) (w m b : Int) : Prop := (b = -1 ∧ ∀ i, 0 ≤ i → i < m → ¬ jm_good σ i) ∨ ((0 ≤ b ∧ b < m) ∧ jm_good σ b ∧ ∀ i, 0 ≤ i → i < m → jm_good σ i → ¬ jm_wl σ w i b ∧ (i < b → jm_wl σ w b i))
theorem jm_wst_bad {σ : jw_H} {w m b : Int} (h : jm_wst σ w m b) (hn : ¬ jm_good σ m) : jm_wst σ w (m + 1) b := by
  rcases h with ⟨h1, h2⟩ | ⟨h1, h2, h3⟩
  · refine .inl ⟨h1, fun i i0 i1 => ?_⟩
    by_cases e : i = m
    · rw [e]
      exact hn
    · exact h2 i i0 (by omega)
  · refine .inr ⟨by omega, h2, fun i i0 i1 hg => ?_⟩
    by_cases e : i = m
    · rw [e] at hg
      exact absurd hg hn
    · exact h3 i i0 (by omega) hg
theorem jm_wst_no {σ : jw_H} {w m b : Int} (h : jm_wst σ w m b) (hb : ¬ b = -1) (hn : ¬ jm_wl σ w m b) : jm_wst σ w (m + 1) b := by
  rcases h with ⟨h1, h2⟩ | ⟨h1, h2, h3⟩
  · exact absurd h1 hb
  · refine .inr ⟨by omega, h2, fun i i0 i1 hg => ?_⟩
    by_cases e : i = m
    · rw [e]
      exact ⟨hn, fun hh => by omega⟩
    · exact h3 i i0 (by omega) hg
theorem jm_wst_yes {σ : jw_H} (hb : jm_cbd σ) {w m b : Int} (m0 : 0 ≤ m) (m1 : m < σ 103 56) (h : jm_wst σ w m b) (hg : jm_good σ m) (hy : b = -1 ∨ jm_wl σ w m b) : jm_wst σ w (m + 1) m := by
  refine .inr ⟨by omega, hg, fun i i0 i1 hi => ?_⟩
  by_cases e : i = m
  · rw [e]
    exact ⟨fun hh => by unfold jm_wl at hh; omega, fun hh => by omega⟩
  · rcases h with ⟨h1, h2⟩ | ⟨h1, h2, h3⟩
    · exact absurd hi (h2 i i0 (by omega))
    · rcases hy with hy | hy
      · omega
      · have h4 := jm_wl_2 (jm_cw hb m0 m1) (jm_cw hb h1.1 (by omega)) (jm_cw hb i0 (by omega)) hy (h3 i i0 (by omega) hi).1
        exact ⟨jm_wl_as h4, fun _ => h4⟩
theorem jm_mostOf_loop {n : Nat} {σ : jw_H} {w : Int} (hP : jm_Pb σ) (hb : jm_cbd σ) (w0 : 0 ≤ w) (w1 : w < σ 103 4) : ∀ (f : Nat) {b m : Int}, m + f = σ 103 56 → jm_mst σ w m b → jw_W (js_S n) 2 md_290 4 [some (.inr (.inr 103)), some (.inl w), some (.inl b), some (.inl m)] [] σ (fun r σ' => ∃ b, r = some (.inl b) ∧ σ' = σ ∧ jm_mst σ w (σ 103 56) b)
  | f, b, m, hk, H => by
    have ih : ∀ {b' : Int}, m < σ 103 56 → jm_mst σ w (m + 1) b' → jw_W (js_S n) 2 md_290 4 [some (.inr (.inr 103)), some (.inl w), some (.inl b'), some (.inl (m + 1))] [] σ (fun r σ' => ∃ b, r = some (.inl b) ∧ σ' = σ ∧ jm_mst σ w (σ 103 56) b) := by
      intro b' h1 h2
      match f, hk with
      | 0, hk => omega
      | f + 1, hk => exact jm_mostOf_loop hP hb w0 w1 f (by omega) h2
    have bm := hb.1
    have hB := H.1
    refine jw_W_n 2 (i' := 6) (ls' := [some (.inr (.inr 103)), some (.inl w), some (.inl b), some (.inl m)]) (st' := [.inr (.inr 103), .inl m]) rfl ?_
    refine jw_W_gf rfl rfl rfl ?_
    show jw_W (js_S n) _ md_290 7 [some (.inr (.inr 103)), some (.inl w), some (.inl b), some (.inl m)] [.inl (σ 103 56), .inl m] σ _
    refine jw_W_ic rfl (by unfold jw_rg; omega) (by unfold jw_rg; omega) (fun hc1 => ?_) (fun hc1 => ?_)
    · have hc1 : m ≥ (σ 103 56) := hc1
      refine jw_W_n 1 (i' := 19) (ls' := [some (.inr (.inr 103)), some (.inl w), some (.inl b), some (.inl m)]) (st' := [.inl b]) rfl ?_
      refine jw_W_ir rfl ?_
      have hkl : m = σ 103 56 := by omega
      subst hkl
      exact ⟨b, rfl, rfl, H⟩
    · have hc1 : ¬ (m ≥ (σ 103 56)) := hc1
      refine jw_W_n 4 (i' := 12) (ls' := [some (.inr (.inr 103)), some (.inl w), some (.inl b), some (.inl m)]) (st' := [.inl b, .inl m, .inl w, .inr (.inr 103)]) rfl ?_
      refine jw_W_call (as := [.inr (.inr 103), .inl w, .inl m, .inl b]) (rest := []) rfl rfl rfl rfl (Nat.le_of_ble_eq_true rfl) (.inr rfl) (jm_byWish hP hb w0 w1 (by omega) (by omega) (by omega) (by omega)) (by omega) ?_ rfl
      rintro r1 σ1 (⟨rfl, hs, q1⟩ | ⟨rfl, hs, q1⟩ | ⟨rfl, hs, q1⟩)
      · rw [hs]
        have hy : jm_wl σ w m b := q1
        show jw_W (js_S n) _ md_290 13 [some (.inr (.inr 103)), some (.inl w), some (.inl b), some (.inl m)] [.inl ((-1))] σ _
        refine jw_W_if rfl (by unfold jw_rg; omega) (fun hc2 => ?_) (fun hc2 => ?_)
        · clear hc2
          refine jw_W_n 2 (i' := 4) (ls' := [some (.inr (.inr 103)), some (.inl w), some (.inl b), some (.inl (m + 1))]) (st' := []) rfl ?_
          exact ih (by omega) (jm_mst_no H (by first | exact hy.1 | exact jm_wl_as hy))
        · exact absurd hc2 (show ¬ ¬ ((((-1 : Int))) ≤ 0) by omega)
      · rw [hs]
        have hy : jm_wl σ w b m := q1
        show jw_W (js_S n) _ md_290 13 [some (.inr (.inr 103)), some (.inl w), some (.inl b), some (.inl m)] [.inl 1] σ _
        refine jw_W_if rfl (by unfold jw_rg; omega) (fun hc3 => ?_) (fun hc3 => ?_)
        · exact absurd hc3 (show ¬ ((1 : Int) ≤ 0) by omega)
        · clear hc3
          refine jw_W_n 4 (i' := 4) (ls' := [some (.inr (.inr 103)), some (.inl w), some (.inl m), some (.inl (m + 1))]) (st' := []) rfl ?_
          exact ih (by omega) (jm_mst_yes hb (by omega) H hy)
      · rw [hs]
        have hy : ¬ jm_wl σ w b m ∧ ¬ jm_wl σ w m b := ⟨by unfold jm_wl; omega, by unfold jm_wl; omega⟩
        show jw_W (js_S n) _ md_290 13 [some (.inr (.inr 103)), some (.inl w), some (.inl b), some (.inl m)] [.inl 0] σ _
        refine jw_W_if rfl (by unfold jw_rg; omega) (fun hc4 => ?_) (fun hc4 => ?_)
        · clear hc4
          refine jw_W_n 2 (i' := 4) (ls' := [some (.inr (.inr 103)), some (.inl w), some (.inl b), some (.inl (m + 1))]) (st' := []) rfl ?_
          exact ih (by omega) (jm_mst_no H (by first | exact hy.1 | exact jm_wl_as hy))
        · exact absurd hc4 (show ¬ ¬ ((0 : Int) ≤ 0) by omega)
theorem jm_mostOf {n : Nat} {σ : jw_H} {w : Int} (hP : jm_Pb σ) (hb : jm_cbd σ) (hn : 0 < σ 103 56) (w0 : 0 ≤ w) (w1 : w < σ 103 4) : jw_T (js_S n) 3 290 [.inr (.inr 103), .inl w] σ (fun r σ' => ∃ b, r = some (.inl b) ∧ σ' = σ ∧ jm_mst σ w (σ 103 56) b) := by
  refine jw_T_of (D := 2) (M := mm_290) rfl (Nat.le_of_ble_eq_true rfl) (ls0 := [some (.inr (.inr 103)), some (.inl w), none, none]) rfl ?_ (by rintro _ _ ⟨_, rfl, -⟩; rfl)
  refine jw_W_n 4 (i' := 4) (ls' := [some (.inr (.inr 103)), some (.inl w), some (.inl 0), some (.inl 1)]) (st' := []) rfl ?_
  exact jm_mostOf_loop hP hb w0 w1 (σ 103 56 - 1).toNat (b := 0) (m := 1) (by omega) ⟨by omega, fun i i0 i1 => by rw [show i = 0 by omega]; exact ⟨fun hh => by unfold jm_wl at hh; omega, fun hh => by omega⟩⟩
theorem jm_worstOf_loop {n : Nat} {σ : jw_H} {w : Int} (hP : jm_Pb σ) (hb : jm_cbd σ) (hg : 0 ≤ σ 103 57 ∧ σ 103 57 ≤ 1048575) (w0 : 0 ≤ w) (w1 : w < σ 103 4) : ∀ (f : Nat) {b m : Int}, 0 ≤ m → m + f = σ 103 56 → (b = -1 ∨ 0 ≤ b ∧ b < m) → jm_wst σ w m b → jw_W (js_S n) 2 md_291 4 [some (.inr (.inr 103)), some (.inl w), some (.inl b), some (.inl m)] [] σ (fun r σ' => ∃ b, r = some (.inl b) ∧ σ' = σ ∧ jm_wst σ w (σ 103 56) b)
  | f, b, m, m0, hk, hB, H => by
    have ih : ∀ {b' : Int}, m < σ 103 56 → (b' = -1 ∨ 0 ≤ b' ∧ b' < m + 1) → jm_wst σ w (m + 1) b' → jw_W (js_S n) 2 md_291 4 [some (.inr (.inr 103)), some (.inl w), some (.inl b'), some (.inl (m + 1))] [] σ (fun r σ' => ∃ b, r = some (.inl b) ∧ σ' = σ ∧ jm_wst σ w (σ 103 56) b) := by
      intro b' h1 h2 h3
      match f, hk with
      | 0, hk => omega
      | f + 1, hk => exact jm_worstOf_loop hP hb hg w0 w1 f (by omega) (by omega) h2 h3
    have bm := hb.1
    have hB2 : b = -1 ∨ 0 ≤ b ∧ b < m + 1 := by omega
    refine jw_W_n 2 (i' := 6) (ls' := [some (.inr (.inr 103)), some (.inl w), some (.inl b), some (.inl m)]) (st' := [.inr (.inr 103), .inl m]) rfl ?_
    refine jw_W_gf rfl rfl rfl ?_
    show jw_W (js_S n) _ md_291 7 [some (.inr (.inr 103)), some (.inl w), some (.inl b), some (.inl m)] [.inl (σ 103 56), .inl m] σ _
    refine jw_W_ic rfl (by unfold jw_rg; omega) (by unfold jw_rg; omega) (fun hc1 => ?_) (fun hc1 => ?_)
    · have hc1 : m ≥ (σ 103 56) := hc1
      refine jw_W_n 1 (i' := 27) (ls' := [some (.inr (.inr 103)), some (.inl w), some (.inl b), some (.inl m)]) (st' := [.inl b]) rfl ?_
      refine jw_W_ir rfl ?_
      have hkl : m = σ 103 56 := by omega
      subst hkl
      exact ⟨b, rfl, rfl, H⟩
    · have hc1 : ¬ (m ≥ (σ 103 56)) := hc1
      refine jw_W_n 1 (i' := 9) (ls' := [some (.inr (.inr 103)), some (.inl w), some (.inl b), some (.inl m)]) (st' := [.inr (.inr 103)]) rfl ?_
      refine jw_W_gf rfl rfl rfl ?_
      show jw_W (js_S n) _ md_291 10 [some (.inr (.inr 103)), some (.inl w), some (.inl b), some (.inl m)] [.inl (σ 103 57)] σ _
      refine jw_W_n 1 (i' := 11) (ls' := [some (.inr (.inr 103)), some (.inl w), some (.inl b), some (.inl m)]) (st' := [.inl m, .inl (σ 103 57)]) rfl ?_
      refine jw_W_call (as := [.inl (σ 103 57), .inl m]) (rest := []) rfl rfl rfl rfl (Nat.le_of_ble_eq_true rfl) (.inl rfl) (jm_has hg.1 (by omega) m0 (by omega)) (by omega) ?_ rfl
      rintro r1 σ1 (⟨rfl, hs, hgo⟩ | ⟨rfl, hs, hgo⟩)
      · rw [hs]
        show jw_W (js_S n) _ md_291 12 [some (.inr (.inr 103)), some (.inl w), some (.inl b), some (.inl m)] [.inl 1] σ _
        refine jw_W_if rfl (by unfold jw_rg; omega) (fun hc2 => ?_) (fun hc2 => ?_)
        · exact absurd hc2 (show ¬ ((1 : Int) = 0) by omega)
        · clear hc2
          refine jw_W_n 2 (i' := 15) (ls' := [some (.inr (.inr 103)), some (.inl w), some (.inl b), some (.inl m)]) (st' := [.inl ((-1)), .inl b]) rfl ?_
          refine jw_W_ic rfl (by unfold jw_rg; omega) (by unfold jw_rg; omega) (fun hc3 => ?_) (fun hc3 => ?_)
          · have hc3 : b = ((-1)) := hc3
            refine jw_W_n 4 (i' := 4) (ls' := [some (.inr (.inr 103)), some (.inl w), some (.inl m), some (.inl (m + 1))]) (st' := []) rfl ?_
            exact ih (by omega) (by omega) (jm_wst_yes hb m0 (by omega) H hgo (by first | exact .inl (by assumption) | exact .inr hy))
          · have hc3 : ¬ (b = ((-1))) := hc3
            refine jw_W_n 4 (i' := 20) (ls' := [some (.inr (.inr 103)), some (.inl w), some (.inl b), some (.inl m)]) (st' := [.inl b, .inl m, .inl w, .inr (.inr 103)]) rfl ?_
            refine jw_W_call (as := [.inr (.inr 103), .inl w, .inl m, .inl b]) (rest := []) rfl rfl rfl rfl (Nat.le_of_ble_eq_true rfl) (.inr rfl) (jm_byWish hP hb w0 w1 m0 (by omega) (by omega) (by omega)) (by omega) ?_ rfl
            rintro r1 σ1 (⟨rfl, hs, q2⟩ | ⟨rfl, hs, q2⟩ | ⟨rfl, hs, q2⟩)
            · rw [hs]
              have hy : jm_wl σ w m b := q2
              show jw_W (js_S n) _ md_291 21 [some (.inr (.inr 103)), some (.inl w), some (.inl b), some (.inl m)] [.inl ((-1))] σ _
              refine jw_W_if rfl (by unfold jw_rg; omega) (fun hc4 => ?_) (fun hc4 => ?_)
              · exact absurd hc4 (show ¬ ((((-1 : Int))) ≥ 0) by omega)
              · clear hc4
                refine jw_W_n 4 (i' := 4) (ls' := [some (.inr (.inr 103)), some (.inl w), some (.inl m), some (.inl (m + 1))]) (st' := []) rfl ?_
                exact ih (by omega) (by omega) (jm_wst_yes hb m0 (by omega) H hgo (by first | exact .inl (by assumption) | exact .inr hy))
            · rw [hs]
              have hy : jm_wl σ w b m := q2
              show jw_W (js_S n) _ md_291 21 [some (.inr (.inr 103)), some (.inl w), some (.inl b), some (.inl m)] [.inl 1] σ _
              refine jw_W_if rfl (by unfold jw_rg; omega) (fun hc5 => ?_) (fun hc5 => ?_)
              · clear hc5
                refine jw_W_n 2 (i' := 4) (ls' := [some (.inr (.inr 103)), some (.inl w), some (.inl b), some (.inl (m + 1))]) (st' := []) rfl ?_
                first | exact ih (by omega) hB2 (jm_wst_bad H hgo) | exact ih (by omega) hB2 (jm_wst_no H (by assumption) (by first | exact hy.2 | exact jm_wl_as hy))
              · exact absurd hc5 (show ¬ ¬ ((1 : Int) ≥ 0) by omega)
            · rw [hs]
              have hy : ¬ jm_wl σ w b m ∧ ¬ jm_wl σ w m b := ⟨by unfold jm_wl; omega, by unfold jm_wl; omega⟩
              show jw_W (js_S n) _ md_291 21 [some (.inr (.inr 103)), some (.inl w), some (.inl b), some (.inl m)] [.inl 0] σ _
              refine jw_W_if rfl (by unfold jw_rg; omega) (fun hc6 => ?_) (fun hc6 => ?_)
              · clear hc6
                refine jw_W_n 2 (i' := 4) (ls' := [some (.inr (.inr 103)), some (.inl w), some (.inl b), some (.inl (m + 1))]) (st' := []) rfl ?_
                first | exact ih (by omega) hB2 (jm_wst_bad H hgo) | exact ih (by omega) hB2 (jm_wst_no H (by assumption) (by first | exact hy.2 | exact jm_wl_as hy))
              · exact absurd hc6 (show ¬ ¬ ((0 : Int) ≥ 0) by omega)
      · rw [hs]
        show jw_W (js_S n) _ md_291 12 [some (.inr (.inr 103)), some (.inl w), some (.inl b), some (.inl m)] [.inl 0] σ _
        refine jw_W_if rfl (by unfold jw_rg; omega) (fun hc7 => ?_) (fun hc7 => ?_)
        · clear hc7
          refine jw_W_n 2 (i' := 4) (ls' := [some (.inr (.inr 103)), some (.inl w), some (.inl b), some (.inl (m + 1))]) (st' := []) rfl ?_
          first | exact ih (by omega) hB2 (jm_wst_bad H hgo) | exact ih (by omega) hB2 (jm_wst_no H (by assumption) (by first | exact hy.2 | exact jm_wl_as hy))
        · exact absurd hc7 (show ¬ ¬ ((0 : Int) = 0) by omega)
theorem jm_worstOf {n : Nat} {σ : jw_H} {w : Int} (hP : jm_Pb σ) (hb : jm_cbd σ) (hg : 0 ≤ σ 103 57 ∧ σ 103 57 ≤ 1048575) (w0 : 0 ≤ w) (w1 : w < σ 103 4) : jw_T (js_S n) 3 291 [.inr (.inr 103), .inl w] σ (fun r σ' => ∃ b, r = some (.inl b) ∧ σ' = σ ∧ jm_wst σ w (σ 103 56) b) := by
  refine jw_T_of (D := 2) (M := mm_291) rfl (Nat.le_of_ble_eq_true rfl) (ls0 := [some (.inr (.inr 103)), some (.inl w), none, none]) rfl ?_ (by rintro _ _ ⟨_, rfl, -⟩; rfl)
  refine jw_W_n 4 (i' := 4) (ls' := [some (.inr (.inr 103)), some (.inl w), some (.inl ((-1))), some (.inl 0)]) (st' := []) rfl ?_
  exact jm_worstOf_loop hP hb hg w0 w1 (σ 103 56).toNat (b := (-1)) (m := 0) (by omega) (by have := hb.1; omega) (.inl rfl) (.inl ⟨rfl, fun i i0 i1 => by omega⟩)

/-! ===== the reference's body: what leaves a line ===== -/
theorem jm_par {f k l : ge_D} (h1 : ¬ ge_nz (jm_X f k)) (h2 : ¬ ge_nz (jm_X f l)) (hf : ge_nz f) : ¬ ge_nz (jm_X k l) := by
  have a1 := Classical.not_not.mp h1
  have a2 := Classical.not_not.mp h2
  obtain ⟨f1, f2, f3⟩ := f
  obtain ⟨k1, k2, k3⟩ := k
  obtain ⟨l1, l2, l3⟩ := l
  simp only [jm_X] at a1 a2
  simp only [ge_nz] at hf
  simp only [jm_X, ge_nz]
  apply Classical.not_not.mpr
  have e : ∀ x : Int, f1 * x = 0 → f2 * x = 0 → f3 * x = 0 → x = 0 := by
    intro x b1 b2 b3
    apply Classical.byContradiction
    intro hx
    exact hf ⟨(Int.mul_eq_zero.mp b1).resolve_right hx, (Int.mul_eq_zero.mp b2).resolve_right hx, (Int.mul_eq_zero.mp b3).resolve_right hx⟩
  refine ⟨e _ ?_ ?_ ?_, e _ ?_ ?_ ?_, e _ ?_ ?_ ?_⟩ <;> grind
def jm_A (σ : jw_H) (s k : Int) : Prop := jb_in s k.toNat ∧ ge_nz (jm_N σ k)
/-- whether planes leave just a line -/
def jm_LL (σ : jw_H) (s : Int) : Prop := σ 103 3 = 1 ∨ (σ 103 3 = 2 ∧ ∃ k, 0 ≤ k ∧ k < 20 ∧ jm_A σ s k) ∨ (σ 103 3 = 3 ∧ ∃ k l, 0 ≤ k ∧ k < 20 ∧ 0 ≤ l ∧ l < 20 ∧ jm_A σ s k ∧ jm_A σ s l ∧ ge_nz (jm_X (jm_N σ k) (jm_N σ l)))
def jm_LI (σ : jw_H) (s f k : Int) : Prop := (f = -1 ∧ ∀ j, 0 ≤ j → j < k → ¬ jm_A σ s j) ∨ (0 ≤ f ∧ f < k ∧ jm_A σ s f ∧ σ 103 3 ≠ 2 ∧ ∀ j, 0 ≤ j → j < k → jm_A σ s j → ¬ ge_nz (jm_X (jm_N σ f) (jm_N σ j)))
theorem jm_LI_no {σ : jw_H} {s f k : Int} (h : jm_LI σ s f k) (hA : ¬ jm_A σ s k) : jm_LI σ s f (k + 1) := by
  rcases h with ⟨e, h⟩ | ⟨a, b, c, d, h⟩
  · refine .inl ⟨e, fun j j0 j1 => ?_⟩
    by_cases hj : j = k
    · subst hj
      exact hA
    · exact h j j0 (by omega)
  · refine .inr ⟨a, by omega, c, d, fun j j0 j1 hj2 => ?_⟩
    by_cases hj : j = k
    · subst hj
      exact absurd hj2 hA
    · exact h j j0 (by omega) hj2
theorem jm_LI_no1 {σ : jw_H} {s f k : Int} (h : jm_LI σ s f k) (hA : ¬ jb_in s k.toNat) : jm_LI σ s f (k + 1) := jm_LI_no h (fun w => hA w.1)
theorem jm_LI_no2 {σ : jw_H} {s f k : Int} (h : jm_LI σ s f k) (hA : ¬ ge_nz (jm_N σ k)) : jm_LI σ s f (k + 1) := jm_LI_no h (fun w => hA w.2)
theorem jm_LI_first {σ : jw_H} {s f k : Int} (h : jm_LI σ s f k) (hf : f = -1) (k0 : 0 ≤ k) (h1 : jb_in s k.toNat) (h2 : ge_nz (jm_N σ k)) (hq : ¬ σ 103 3 = 2) : jm_LI σ s k (k + 1) := by
  rcases h with ⟨e, h⟩ | ⟨a, b, c, d, h⟩
  · refine .inr ⟨k0, by omega, ⟨h1, h2⟩, hq, fun j j0 j1 hj2 => ?_⟩
    by_cases hj : j = k
    · subst hj
      simp only [jm_X, ge_nz]
      apply Classical.not_not.mpr
      refine ⟨?_, ?_, ?_⟩ <;> grind
    · exact absurd hj2 (h j j0 (by omega))
  · omega
theorem jm_LI_more {σ : jw_H} {s f k : Int} (h : jm_LI σ s f k) (hf : ¬ f = -1) (hx : ¬ ge_nz (jm_X (jm_N σ f) (jm_N σ k))) : jm_LI σ s f (k + 1) := by
  rcases h with ⟨e, h⟩ | ⟨a, b, c, d, h⟩
  · exact absurd e hf
  · refine .inr ⟨a, by omega, c, d, fun j j0 j1 hj2 => ?_⟩
    by_cases hj : j = k
    · subst hj
      exact hx
    · exact h j j0 (by omega) hj2
theorem jm_LL_two {σ : jw_H} {s k : Int} (hq : σ 103 3 = 2) (k0 : 0 ≤ k) (k1 : k < 20) (h1 : jb_in s k.toNat) (h2 : ge_nz (jm_N σ k)) : jm_LL σ s := .inr (.inl ⟨hq, k, k0, k1, h1, h2⟩)
theorem jm_LL_three {σ : jw_H} {s f k : Int} (h : jm_LI σ s f k) (hf : ¬ f = -1) (q1 : 1 ≤ σ 103 3) (q2 : σ 103 3 ≤ 3) (k0 : 0 ≤ k) (k1 : k < 20) (h1 : jb_in s k.toNat) (h2 : ge_nz (jm_N σ k)) (hx : ge_nz (jm_X (jm_N σ f) (jm_N σ k))) : jm_LL σ s := by
  rcases h with ⟨e, h⟩ | ⟨a, b, c, d, h⟩
  · exact absurd e hf
  · by_cases hq : σ 103 3 = 1
    · exact .inl hq
    · exact .inr (.inr ⟨by omega, f, k, a, by omega, k0, k1, c, ⟨h1, h2⟩, hx⟩)
theorem jm_LL_end {σ : jw_H} {s f k : Int} (h : jm_LI σ s f k) (hk : 20 ≤ k) (hq : ¬ σ 103 3 = 1) : ¬ jm_LL σ s := by
  rintro (h1 | ⟨h1, j, j0, j1, hA⟩ | ⟨h1, j, l, j0, j1, l0, l1, hA, hB, hx⟩)
  · exact hq h1
  · rcases h with ⟨e, h⟩ | ⟨a, b, c, d, h⟩
    · exact h j j0 (by omega) hA
    · exact d h1
  · rcases h with ⟨e, h⟩ | ⟨a, b, c, d, h⟩
    · exact h j j0 (by omega) hA
    · exact jm_par (h j j0 (by omega) hA) (h l l0 (by omega) hB) c.2 hx
theorem jm_leaveLine_loop {n : Nat} {σ : jw_H} {s : Int} (hN : jm_Ns σ) (s0 : 0 ≤ s) (s1 : s ≤ 2147483647) (q1 : 1 ≤ σ 103 3) (q2 : σ 103 3 ≤ 3) : ∀ (m : Nat) {f k : Int}, 0 ≤ k → k + m = 20 → jm_LI σ s f k → jw_W (js_S n) 1 md_235 4 [some (.inr (.inr 103)), some (.inl s), some (.inl f), some (.inl k)] [] σ (fun r σ' => (r = some (.inl 1) ∧ σ' = σ ∧ jm_LL σ s) ∨ (r = some (.inl 0) ∧ σ' = σ ∧ ¬ jm_LL σ s))
  | m, f, k, k0, hk, hI => by
    have ih : ∀ {f' : Int}, k < 20 → 0 ≤ k + 1 → jm_LI σ s f' (k + 1) → jw_W (js_S n) 1 md_235 4 [some (.inr (.inr 103)), some (.inl s), some (.inl f'), some (.inl (k + 1))] [] σ (fun r σ' => (r = some (.inl 1) ∧ σ' = σ ∧ jm_LL σ s) ∨ (r = some (.inl 0) ∧ σ' = σ ∧ ¬ jm_LL σ s)) := by
      intro f' h1 h2 h3
      match m, hk with
      | 0, hk => omega
      | m + 1, hk => exact jm_leaveLine_loop hN s0 s1 q1 q2 m h2 (by omega) h3
    have hf : -1 ≤ f ∧ f < 20 := by rcases hI with ⟨e, -⟩ | ⟨e, e2, -⟩ <;> omega
    refine jw_W_n 2 (i' := 6) (ls' := [some (.inr (.inr 103)), some (.inl s), some (.inl f), some (.inl k)]) (st' := [.inl 20, .inl k]) rfl ?_
    refine jw_W_ic rfl (by unfold jw_rg; omega) (by unfold jw_rg; omega) (fun hc1 => ?_) (fun hc1 => ?_)
    · have hc1 : k ≥ 20 := hc1
      refine jw_W_n 1 (i' := 39) (ls' := [some (.inr (.inr 103)), some (.inl s), some (.inl f), some (.inl k)]) (st' := [.inr (.inr 103)]) rfl ?_
      refine jw_W_gf rfl rfl rfl ?_
      show jw_W (js_S n) _ md_235 40 [some (.inr (.inr 103)), some (.inl s), some (.inl f), some (.inl k)] [.inl (σ 103 3)] σ _
      refine jw_W_n 1 (i' := 41) (ls' := [some (.inr (.inr 103)), some (.inl s), some (.inl f), some (.inl k)]) (st' := [.inl 1, .inl (σ 103 3)]) rfl ?_
      refine jw_W_ic rfl (by unfold jw_rg; omega) (by unfold jw_rg; omega) (fun hc2 => ?_) (fun hc2 => ?_)
      · have hc2 : (σ 103 3) ≠ 1 := hc2
        refine jw_W_n 1 (i' := 45) (ls' := [some (.inr (.inr 103)), some (.inl s), some (.inl f), some (.inl k)]) (st' := [.inl 0]) rfl ?_
        refine jw_W_ir rfl ?_
        exact .inr ⟨rfl, rfl, jm_LL_end hI (by omega) (by assumption)⟩
      · have hc2 : (σ 103 3) = 1 := Classical.not_not.mp hc2
        refine jw_W_n 2 (i' := 45) (ls' := [some (.inr (.inr 103)), some (.inl s), some (.inl f), some (.inl k)]) (st' := [.inl 1]) rfl ?_
        refine jw_W_ir rfl ?_
        first
          | exact .inl ⟨rfl, rfl, jm_LL_two (by assumption) (by omega) (by omega) (by assumption) (by assumption)⟩
          | exact .inl ⟨rfl, rfl, jm_LL_three hI (by assumption) (by omega) (by omega) (by omega) (by omega) (by assumption) (by assumption) (by assumption)⟩
          | exact .inl ⟨rfl, rfl, Or.inl (by assumption)⟩
          | (exfalso; omega)
    · have hc1 : ¬ (k ≥ 20) := hc1
      refine jw_W_n 2 (i' := 9) (ls' := [some (.inr (.inr 103)), some (.inl s), some (.inl f), some (.inl k)]) (st' := [.inl k, .inl s]) rfl ?_
      refine jw_W_call (as := [.inl s, .inl k]) (rest := []) rfl rfl rfl rfl (by decide) (.inl rfl) (jm_has (by omega) (by omega) (by omega) (by omega)) (by omega) ?_ rfl
      rintro r1 σ1 (⟨rfl, hs, q1⟩ | ⟨rfl, hs, q1⟩)
      · rw [hs]
        show jw_W (js_S n) _ md_235 10 [some (.inr (.inr 103)), some (.inl s), some (.inl f), some (.inl k)] [.inl 1] σ _
        refine jw_W_if rfl (by unfold jw_rg; omega) (fun hc3 => ?_) (fun hc3 => ?_)
        · exact absurd hc3 (show ¬ ((1 : Int) = 0) by omega)
        · clear hc3
          refine jw_W_n 2 (i' := 13) (ls' := [some (.inr (.inr 103)), some (.inl s), some (.inl f), some (.inl k)]) (st' := [.inl k, .inr (.inr 103)]) rfl ?_
          refine jw_W_call (as := [.inr (.inr 103), .inl k]) (rest := []) rfl rfl rfl rfl (by decide) (.inr rfl) (jm_isNothing hN (by omega) (by omega)) (by omega) ?_ rfl
          rintro r1 σ1 (⟨rfl, hs, q2⟩ | ⟨rfl, hs, q2⟩)
          · rw [hs]
            show jw_W (js_S n) _ md_235 14 [some (.inr (.inr 103)), some (.inl s), some (.inl f), some (.inl k)] [.inl 1] σ _
            refine jw_W_if rfl (by unfold jw_rg; omega) (fun hc4 => ?_) (fun hc4 => ?_)
            · clear hc4
              refine jw_W_n 2 (i' := 4) (ls' := [some (.inr (.inr 103)), some (.inl s), some (.inl f), some (.inl (k + 1))]) (st' := []) rfl ?_
              first
                | exact ih (by omega) (by omega) (jm_LI_no1 hI (by assumption))
                | exact ih (by omega) (by omega) (jm_LI_no2 hI (by assumption))
                | exact ih (by omega) (by omega) (jm_LI_first hI (by assumption) (by omega) (by assumption) (by assumption) (by assumption))
                | exact ih (by omega) (by omega) (jm_LI_more hI (by assumption) (by assumption))
                | (exfalso; omega)
            · exact absurd hc4 (show ¬ ¬ ((1 : Int) ≠ 0) by omega)
          · rw [hs]
            show jw_W (js_S n) _ md_235 14 [some (.inr (.inr 103)), some (.inl s), some (.inl f), some (.inl k)] [.inl 0] σ _
            refine jw_W_if rfl (by unfold jw_rg; omega) (fun hc5 => ?_) (fun hc5 => ?_)
            · exact absurd hc5 (show ¬ ((0 : Int) ≠ 0) by omega)
            · clear hc5
              refine jw_W_n 1 (i' := 16) (ls' := [some (.inr (.inr 103)), some (.inl s), some (.inl f), some (.inl k)]) (st' := [.inr (.inr 103)]) rfl ?_
              refine jw_W_gf rfl rfl rfl ?_
              show jw_W (js_S n) _ md_235 17 [some (.inr (.inr 103)), some (.inl s), some (.inl f), some (.inl k)] [.inl (σ 103 3)] σ _
              refine jw_W_n 1 (i' := 18) (ls' := [some (.inr (.inr 103)), some (.inl s), some (.inl f), some (.inl k)]) (st' := [.inl 2, .inl (σ 103 3)]) rfl ?_
              refine jw_W_ic rfl (by unfold jw_rg; omega) (by unfold jw_rg; omega) (fun hc6 => ?_) (fun hc6 => ?_)
              · have hc6 : (σ 103 3) = 2 := hc6
                refine jw_W_n 1 (i' := 28) (ls' := [some (.inr (.inr 103)), some (.inl s), some (.inl f), some (.inl k)]) (st' := [.inl 1]) rfl ?_
                refine jw_W_ir rfl ?_
                first
                  | exact .inl ⟨rfl, rfl, jm_LL_two (by assumption) (by omega) (by omega) (by assumption) (by assumption)⟩
                  | exact .inl ⟨rfl, rfl, jm_LL_three hI (by assumption) (by omega) (by omega) (by omega) (by omega) (by assumption) (by assumption) (by assumption)⟩
                  | exact .inl ⟨rfl, rfl, Or.inl (by assumption)⟩
                  | (exfalso; omega)
              · have hc6 : ¬ ((σ 103 3) = 2) := hc6
                refine jw_W_n 2 (i' := 21) (ls' := [some (.inr (.inr 103)), some (.inl s), some (.inl f), some (.inl k)]) (st' := [.inl ((-1)), .inl f]) rfl ?_
                refine jw_W_ic rfl (by unfold jw_rg; omega) (by unfold jw_rg; omega) (fun hc7 => ?_) (fun hc7 => ?_)
                · have hc7 : f = ((-1)) := hc7
                  refine jw_W_n 2 (i' := 31) (ls' := [some (.inr (.inr 103)), some (.inl s), some (.inl f), some (.inl k)]) (st' := [.inl ((-1)), .inl f]) rfl ?_
                  refine jw_W_ic rfl (by unfold jw_rg; omega) (by unfold jw_rg; omega) (fun hc8 => ?_) (fun hc8 => ?_)
                  · have hc8 : f ≠ ((-1)) := hc8
                    refine jw_W_n 4 (i' := 4) (ls' := [some (.inr (.inr 103)), some (.inl s), some (.inl f), some (.inl (k + 1))]) (st' := []) rfl ?_
                    first
                      | exact ih (by omega) (by omega) (jm_LI_no1 hI (by assumption))
                      | exact ih (by omega) (by omega) (jm_LI_no2 hI (by assumption))
                      | exact ih (by omega) (by omega) (jm_LI_first hI (by assumption) (by omega) (by assumption) (by assumption) (by assumption))
                      | exact ih (by omega) (by omega) (jm_LI_more hI (by assumption) (by assumption))
                      | (exfalso; omega)
                  · have hc8 : f = ((-1)) := Classical.not_not.mp hc8
                    refine jw_W_n 5 (i' := 4) (ls' := [some (.inr (.inr 103)), some (.inl s), some (.inl k), some (.inl (k + 1))]) (st' := []) rfl ?_
                    first
                      | exact ih (by omega) (by omega) (jm_LI_no1 hI (by assumption))
                      | exact ih (by omega) (by omega) (jm_LI_no2 hI (by assumption))
                      | exact ih (by omega) (by omega) (jm_LI_first hI (by assumption) (by omega) (by assumption) (by assumption) (by assumption))
                      | exact ih (by omega) (by omega) (jm_LI_more hI (by assumption) (by assumption))
                      | (exfalso; omega)
                · have hc7 : ¬ (f = ((-1))) := hc7
                  refine jw_W_n 3 (i' := 25) (ls' := [some (.inr (.inr 103)), some (.inl s), some (.inl f), some (.inl k)]) (st' := [.inl k, .inl f, .inr (.inr 103)]) rfl ?_
                  refine jw_W_call (as := [.inr (.inr 103), .inl f, .inl k]) (rest := []) rfl rfl rfl rfl (by decide) (.inr rfl) (jm_goAlike hN (by omega) (by omega) (by omega) (by omega)) (by omega) ?_ rfl
                  rintro r1 σ1 (⟨rfl, hs, q3⟩ | ⟨rfl, hs, q3⟩)
                  · rw [hs]
                    show jw_W (js_S n) _ md_235 26 [some (.inr (.inr 103)), some (.inl s), some (.inl f), some (.inl k)] [.inl 1] σ _
                    refine jw_W_if rfl (by unfold jw_rg; omega) (fun hc9 => ?_) (fun hc9 => ?_)
                    · clear hc9
                      refine jw_W_n 2 (i' := 31) (ls' := [some (.inr (.inr 103)), some (.inl s), some (.inl f), some (.inl k)]) (st' := [.inl ((-1)), .inl f]) rfl ?_
                      refine jw_W_ic rfl (by unfold jw_rg; omega) (by unfold jw_rg; omega) (fun hc10 => ?_) (fun hc10 => ?_)
                      · have hc10 : f ≠ ((-1)) := hc10
                        refine jw_W_n 4 (i' := 4) (ls' := [some (.inr (.inr 103)), some (.inl s), some (.inl f), some (.inl (k + 1))]) (st' := []) rfl ?_
                        first
                          | exact ih (by omega) (by omega) (jm_LI_no1 hI (by assumption))
                          | exact ih (by omega) (by omega) (jm_LI_no2 hI (by assumption))
                          | exact ih (by omega) (by omega) (jm_LI_first hI (by assumption) (by omega) (by assumption) (by assumption) (by assumption))
                          | exact ih (by omega) (by omega) (jm_LI_more hI (by assumption) (by assumption))
                          | (exfalso; omega)
                      · have hc10 : f = ((-1)) := Classical.not_not.mp hc10
                        refine jw_W_n 5 (i' := 4) (ls' := [some (.inr (.inr 103)), some (.inl s), some (.inl k), some (.inl (k + 1))]) (st' := []) rfl ?_
                        first
                          | exact ih (by omega) (by omega) (jm_LI_no1 hI (by assumption))
                          | exact ih (by omega) (by omega) (jm_LI_no2 hI (by assumption))
                          | exact ih (by omega) (by omega) (jm_LI_first hI (by assumption) (by omega) (by assumption) (by assumption) (by assumption))
                          | exact ih (by omega) (by omega) (jm_LI_more hI (by assumption) (by assumption))
                          | (exfalso; omega)
                    · exact absurd hc9 (show ¬ ¬ ((1 : Int) ≠ 0) by omega)
                  · rw [hs]
                    show jw_W (js_S n) _ md_235 26 [some (.inr (.inr 103)), some (.inl s), some (.inl f), some (.inl k)] [.inl 0] σ _
                    refine jw_W_if rfl (by unfold jw_rg; omega) (fun hc11 => ?_) (fun hc11 => ?_)
                    · exact absurd hc11 (show ¬ ((0 : Int) ≠ 0) by omega)
                    · clear hc11
                      refine jw_W_n 1 (i' := 28) (ls' := [some (.inr (.inr 103)), some (.inl s), some (.inl f), some (.inl k)]) (st' := [.inl 1]) rfl ?_
                      refine jw_W_ir rfl ?_
                      first
                        | exact .inl ⟨rfl, rfl, jm_LL_two (by assumption) (by omega) (by omega) (by assumption) (by assumption)⟩
                        | exact .inl ⟨rfl, rfl, jm_LL_three hI (by assumption) (by omega) (by omega) (by omega) (by omega) (by assumption) (by assumption) (by assumption)⟩
                        | exact .inl ⟨rfl, rfl, Or.inl (by assumption)⟩
                        | (exfalso; omega)
      · rw [hs]
        show jw_W (js_S n) _ md_235 10 [some (.inr (.inr 103)), some (.inl s), some (.inl f), some (.inl k)] [.inl 0] σ _
        refine jw_W_if rfl (by unfold jw_rg; omega) (fun hc12 => ?_) (fun hc12 => ?_)
        · clear hc12
          refine jw_W_n 2 (i' := 4) (ls' := [some (.inr (.inr 103)), some (.inl s), some (.inl f), some (.inl (k + 1))]) (st' := []) rfl ?_
          first
            | exact ih (by omega) (by omega) (jm_LI_no1 hI (by assumption))
            | exact ih (by omega) (by omega) (jm_LI_no2 hI (by assumption))
            | exact ih (by omega) (by omega) (jm_LI_first hI (by assumption) (by omega) (by assumption) (by assumption) (by assumption))
            | exact ih (by omega) (by omega) (jm_LI_more hI (by assumption) (by assumption))
            | (exfalso; omega)
        · exact absurd hc12 (show ¬ ¬ ((0 : Int) = 0) by omega)
theorem jm_leaveLine {n : Nat} {σ : jw_H} {s : Int} (hN : jm_Ns σ) (s0 : 0 ≤ s) (s1 : s ≤ 2147483647) (q1 : 1 ≤ σ 103 3) (q2 : σ 103 3 ≤ 3) : jw_T (js_S n) 2 235 [.inr (.inr 103), .inl s] σ (fun r σ' => (r = some (.inl 1) ∧ σ' = σ ∧ jm_LL σ s) ∨ (r = some (.inl 0) ∧ σ' = σ ∧ ¬ jm_LL σ s)) := by
  refine jw_T_of (D := 1) (M := mm_235) rfl (Nat.le_of_ble_eq_true rfl) (ls0 := [some (.inr (.inr 103)), some (.inl s), none, none]) rfl ?_ (by rintro _ _ (⟨rfl, -⟩ | ⟨rfl, -⟩) <;> rfl)
  refine jw_W_n 4 (i' := 4) (ls' := [some (.inr (.inr 103)), some (.inl s), some (.inl ((-1))), some (.inl 0)]) (st' := []) rfl ?_
  exact jm_leaveLine_loop hN s0 s1 q1 q2 20 (by omega) (by omega) (.inl ⟨rfl, fun j h1 h2 => by omega⟩)

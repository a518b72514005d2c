/-! ===== values, crowded corners, corners on a plane: class and reference ===== -/
/-- efficient, and as no one ahead -/
def jm_nv (σ : jw_H) (i : Int) : Prop := jm_good σ i ∧ ∀ c, 0 ≤ c → c < i → ¬ (jm_good σ c ∧ jm_al σ i c (σ 103 4))
def jx_vi (σ : jw_H) (i j s : Int) : Prop := (s = 1 ∧ jm_good σ i ∧ ∀ c, 0 ≤ c → c < j → ¬ (jm_good σ c ∧ jm_al σ i c (σ 103 4))) ∨ (s = 0 ∧ ¬ (jm_good σ i ∧ ∀ c, 0 ≤ c → c < j → ¬ (jm_good σ c ∧ jm_al σ i c (σ 103 4))))
theorem jx_vi_1 {σ : jw_H} {i j s : Int} (h : jx_vi σ i j s) (hs : s ≠ 0) (hn : ¬ (jm_good σ j ∧ jm_al σ i j (σ 103 4))) : jx_vi σ i (j + 1) 1 := by
  rcases h with ⟨-, h1, h2⟩ | ⟨h, -⟩
  · refine .inl ⟨rfl, h1, fun c c0 c1 => ?_⟩
    by_cases e : c = j
    · rw [e]
      exact hn
    · exact h2 c c0 (by omega)
  · omega
theorem jx_vi_0 {σ : jw_H} {i j s : Int} (j0 : 0 ≤ j) (h : jx_vi σ i j s) (hn : s = 0 ∨ (jm_good σ j ∧ jm_al σ i j (σ 103 4))) : jx_vi σ i (j + 1) 0 := by
  refine .inr ⟨rfl, fun hh => ?_⟩
  rcases hn with hn | hn
  · rcases h with ⟨h, -⟩ | ⟨-, h⟩
    · omega
    · exact h ⟨hh.1, fun c c0 c1 => hh.2 c c0 (by omega)⟩
  · exact hh.2 j j0 (by omega) hn
theorem jx_vi_d {σ : jw_H} {i j : Int} (h : jx_vi σ i j 0) (hj : j ≤ i) : ¬ jm_nv σ i := by
  rcases h with ⟨h, -⟩ | ⟨-, h⟩
  · omega
  · exact fun hh => h ⟨hh.1, fun c c0 c1 => hh.2 c c0 (by omega)⟩
theorem jx_vi_01 {σ : jw_H} {i j s : Int} (h : jx_vi σ i j s) : s = 0 ∨ s = 1 := by
  rcases h with ⟨h, -⟩ | ⟨h, -⟩
  · exact .inr h
  · exact .inl h
theorem jx_val_in {n : Nat} {σ : jw_H} {D : Nat} {i m : Int} {Q : Option jw_V → jw_H → Prop} (hD : 4 ≤ D) {o : Nat} {C : List (ge_R × Int)} (hJ : jx_KJ n o C σ) (i0 : 0 ≤ i) (i1 : i < σ 103 56) (hQ : ∀ s, jx_vi σ i i s → jw_W (js_S n) D md_26 34 [some (.inr (.inr 57)), some (.inl m), some (.inl i), some (.inl s), some (.inl i)] [] σ Q) : ∀ (f : Nat) {j s : Int}, 0 ≤ j → j + f = i → jx_vi σ i j s → jw_W (js_S n) D md_26 14 [some (.inr (.inr 57)), some (.inl m), some (.inl i), some (.inl s), some (.inl j)] [] σ Q
  | f, j, s, j0, hk, H => by
    have ih : ∀ {s' : Int}, j < i → jx_vi σ i (j + 1) s' → jw_W (js_S n) D md_26 14 [some (.inr (.inr 57)), some (.inl m), some (.inl i), some (.inl s'), some (.inl (j + 1))] [] σ Q := by
      intro s' h1 h2
      match f, hk with
      | 0, hk => omega
      | f + 1, hk => exact jx_val_in hD hJ i0 i1 hQ f (by omega) (by omega) h2
    have hs01 := jx_vi_01 H
    have hI := hJ.1
    have hKN := hJ.2.1
    have hjd := hJ.2.2.2
    obtain ⟨hto, hfo, hp, hP, e0, e1, e2, hPm, hcb, c0, p0, -⟩ := jx_I0_x hI
    have ho := hp.1
    have hq := hP.1
    have hw := hP.2.1
    have hq2 := hP.2.2.1
    have hcn := hcb.1
    refine jw_W_n 2 (i' := 16) (ls' := [some (.inr (.inr 57)), some (.inl m), some (.inl i), some (.inl s), some (.inl j)]) (st' := [.inl i, .inl j]) rfl ?_
    refine jw_W_ic rfl (by unfold jw_rg; omega) (by unfold jw_rg; omega) (fun hc1 => ?_) (fun hc1 => ?_)
    · have hc1 : j ≥ i := hc1
      have hkl : j = i := by omega
      subst hkl
      exact hQ _ H
    · have hc1 : ¬ (j ≥ i) := hc1
      refine jw_W_n 1 (i' := 18) (ls' := [some (.inr (.inr 57)), some (.inl m), some (.inl i), some (.inl s), some (.inl j)]) (st' := [.inl s]) rfl ?_
      refine jw_W_if rfl (by unfold jw_rg; omega) (fun hc2 => ?_) (fun hc2 => ?_)
      · have hc2 : s = 0 := hc2
        refine jw_W_n 4 (i' := 14) (ls' := [some (.inr (.inr 57)), some (.inl m), some (.inl i), some (.inl 0), some (.inl (j + 1))]) (st' := []) rfl ?_
        exact ih (by omega) (jx_vi_0 j0 H (by first | exact .inl (by omega) | exact .inr ⟨hg, ha⟩))
      · have hc2 : ¬ (s = 0) := hc2
        refine jw_W_n 2 (i' := 21) (ls' := [some (.inr (.inr 57)), some (.inl m), some (.inl i), some (.inl s), some (.inl j)]) (st' := [.inl j, .inr (.inr 57)]) rfl ?_
        refine jw_W_call (as := [.inr (.inr 57), .inl j]) (rest := []) rfl rfl rfl rfl (Nat.le_of_ble_eq_true rfl) (.inr rfl) (jx_isEfficient hJ j0 (by omega)) (by omega) ?_ rfl
        rintro r1 σz (⟨rfl, hs, hg⟩ | ⟨rfl, hs, hg⟩)
        · rw [hs]
          show jw_W (js_S n) _ md_26 22 [some (.inr (.inr 57)), some (.inl m), some (.inl i), some (.inl s), some (.inl j)] [.inl 1] σ _
          refine jw_W_if rfl (by unfold jw_rg; omega) (fun hc3 => ?_) (fun hc3 => ?_)
          · exact absurd hc3 (show ¬ ((1 : Int) = 0) by omega)
          · clear hc3
            refine jw_W_n 3 (i' := 26) (ls' := [some (.inr (.inr 57)), some (.inl m), some (.inl i), some (.inl s), some (.inl j)]) (st' := [.inl j, .inl i, .inr (.inr 57)]) rfl ?_
            refine jw_W_call (as := [.inr (.inr 57), .inl i, .inl j]) (rest := []) rfl rfl rfl rfl (Nat.le_of_ble_eq_true rfl) (.inr rfl) (jx_areAlike hJ i0 i1 j0 (by omega)) (by omega) ?_ rfl
            rintro r1 σz (⟨rfl, hs, ha⟩ | ⟨rfl, hs, ha⟩)
            · rw [hs]
              show jw_W (js_S n) _ md_26 27 [some (.inr (.inr 57)), some (.inl m), some (.inl i), some (.inl s), some (.inl j)] [.inl 1] σ _
              refine jw_W_if rfl (by unfold jw_rg; omega) (fun hc4 => ?_) (fun hc4 => ?_)
              · clear hc4
                refine jw_W_n 4 (i' := 14) (ls' := [some (.inr (.inr 57)), some (.inl m), some (.inl i), some (.inl 0), some (.inl (j + 1))]) (st' := []) rfl ?_
                exact ih (by omega) (jx_vi_0 j0 H (by first | exact .inl (by omega) | exact .inr ⟨hg, ha⟩))
              · exact absurd hc4 (show ¬ ¬ ((1 : Int) ≠ 0) by omega)
            · rw [hs]
              show jw_W (js_S n) _ md_26 27 [some (.inr (.inr 57)), some (.inl m), some (.inl i), some (.inl s), some (.inl j)] [.inl 0] σ _
              refine jw_W_if rfl (by unfold jw_rg; omega) (fun hc5 => ?_) (fun hc5 => ?_)
              · exact absurd hc5 (show ¬ ((0 : Int) ≠ 0) by omega)
              · clear hc5
                refine jw_W_n 5 (i' := 14) (ls' := [some (.inr (.inr 57)), some (.inl m), some (.inl i), some (.inl 1), some (.inl (j + 1))]) (st' := []) rfl ?_
                exact ih (by omega) (jx_vi_1 H (by omega) (fun hh => by first | exact hg hh.1 | exact ha hh.2))
        · rw [hs]
          show jw_W (js_S n) _ md_26 22 [some (.inr (.inr 57)), some (.inl m), some (.inl i), some (.inl s), some (.inl j)] [.inl 0] σ _
          refine jw_W_if rfl (by unfold jw_rg; omega) (fun hc6 => ?_) (fun hc6 => ?_)
          · clear hc6
            refine jw_W_n 5 (i' := 14) (ls' := [some (.inr (.inr 57)), some (.inl m), some (.inl i), some (.inl 1), some (.inl (j + 1))]) (st' := []) rfl ?_
            exact ih (by omega) (jx_vi_1 H (by omega) (fun hh => by first | exact hg hh.1 | exact ha hh.2))
          · exact absurd hc6 (show ¬ ¬ ((0 : Int) = 0) by omega)
theorem jx_val_loop {n : Nat} {σ : jw_H} {o : Nat} {C : List (ge_R × Int)} (hJ : jx_KJ n o C σ)  : ∀ (f : Nat) {i m : Int} {a3 a4 : Option jw_V}, 0 ≤ i → i + f = σ 103 56 → m = jx_cn (fun c => jm_nv σ c) i.toNat → jw_W (js_S n) 4 md_26 4 [some (.inr (.inr 57)), some (.inl m), some (.inl i), a3, a4] [] σ (fun r σ' => r = some (.inl (jx_cn (fun c => jm_nv σ c) (σ 103 56).toNat)) ∧ σ' = σ)
  | f, i, m, a3, a4, i0, hk, H => by
    have ih : ∀ {m' : Int} {a3 a4 : Option jw_V}, i < σ 103 56 → m' = jx_cn (fun c => jm_nv σ c) (i + 1).toNat → jw_W (js_S n) 4 md_26 4 [some (.inr (.inr 57)), some (.inl m'), some (.inl (i + 1)), a3, a4] [] σ (fun r σ' => r = some (.inl (jx_cn (fun c => jm_nv σ c) (σ 103 56).toNat)) ∧ σ' = σ) := by
      intro m' a3 a4 h1 h2
      match f, hk with
      | 0, hk => omega
      | f + 1, hk => exact jx_val_loop hJ f (by omega) (by omega) h2
    have hI := hJ.1
    have hKN := hJ.2.1
    have hjd := hJ.2.2.2
    obtain ⟨hto, hfo, hp, hP, e0, e1, e2, hPm, hcb, c0, p0, -⟩ := jx_I0_x hI
    have ho := hp.1
    have hq := hP.1
    have hw := hP.2.1
    have hq2 := hP.2.2.1
    have hcn := hcb.1
    refine jw_W_n 2 (i' := 6) (ls' := [some (.inr (.inr 57)), some (.inl m), some (.inl i), a3, a4]) (st' := [.inr (.inr 57), .inl i]) rfl ?_
    refine jw_W_gf rfl rfl rfl ?_
    show jw_W (js_S n) _ md_26 7 [some (.inr (.inr 57)), some (.inl m), some (.inl i), a3, a4] [.inl (σ 57 0), .inl i] σ _
    refine jw_W_ic rfl (by unfold jw_rg; omega) (by unfold jw_rg; omega) (fun hc1 => ?_) (fun hc1 => ?_)
    · have hc1 : i ≥ (σ 57 0) := hc1
      refine jw_W_n 1 (i' := 45) (ls' := [some (.inr (.inr 57)), some (.inl m), some (.inl i), a3, a4]) (st' := [.inl m]) rfl ?_
      refine jw_W_ir rfl ?_
      have hkl : i = σ 103 56 := by omega
      subst hkl
      exact ⟨by rw [H], rfl⟩
    · have hc1 : ¬ (i ≥ (σ 57 0)) := hc1
      refine jw_W_n 2 (i' := 10) (ls' := [some (.inr (.inr 57)), some (.inl m), some (.inl i), a3, a4]) (st' := [.inl i, .inr (.inr 57)]) rfl ?_
      refine jw_W_call (as := [.inr (.inr 57), .inl i]) (rest := []) rfl rfl rfl rfl (Nat.le_of_ble_eq_true rfl) (.inr rfl) (jx_isEfficient hJ i0 (by omega)) (by omega) ?_ rfl
      rintro r1 σz (⟨rfl, hs, hg⟩ | ⟨rfl, hs, hg⟩)
      · rw [hs]
        show jw_W (js_S n) _ md_26 11 [some (.inr (.inr 57)), some (.inl m), some (.inl i), a3, a4] [.inl 1] σ _
        refine jw_W_n 3 (i' := 14) (ls' := [some (.inr (.inr 57)), some (.inl m), some (.inl i), some (.inl 1), some (.inl 0)]) (st' := []) rfl ?_
        refine jx_val_in (D := 4) (by omega) hJ i0 (by omega) (fun s4 H4 => ?_) i.toNat (j := 0) (by omega) (by omega) (.inl ⟨rfl, hg, fun c c0 c1 => by omega⟩)
        have hs01 := jx_vi_01 H4
        refine jw_W_n 2 (i' := 36) (ls' := [some (.inr (.inr 57)), some (.inl m), some (.inl i), some (.inl s4), some (.inl i)]) (st' := [.inl s4, .inl m]) rfl ?_
        refine jw_W_if rfl (by unfold jw_rg; omega) (fun hc1 => ?_) (fun hc1 => ?_)
        · have hc1 : s4 = 0 := hc1
          refine jw_W_n 5 (i' := 4) (ls' := [some (.inr (.inr 57)), some (.inl (m + 0)), some (.inl (i + 1)), some (.inl s4), some (.inl i)]) (st' := []) rfl ?_
          rw [Int.add_zero]
          exact ih (by omega) (jx_cn_no i0 H (jx_vi_d (show jx_vi σ i i 0 from (show s4 = 0 by omega) ▸ H4) (Int.le_refl _)))
        · have hc1 : ¬ (s4 = 0) := hc1
          refine jw_W_n 6 (i' := 4) (ls' := [some (.inr (.inr 57)), some (.inl (m + 1)), some (.inl (i + 1)), some (.inl s4), some (.inl i)]) (st' := []) rfl ?_
          exact ih (by omega) (jx_cn_yes i0 H (by rcases H4 with ⟨-, h1, h2⟩ | ⟨h, -⟩; exact ⟨h1, h2⟩; omega))
      · rw [hs]
        show jw_W (js_S n) _ md_26 11 [some (.inr (.inr 57)), some (.inl m), some (.inl i), a3, a4] [.inl 0] σ _
        refine jw_W_n 3 (i' := 14) (ls' := [some (.inr (.inr 57)), some (.inl m), some (.inl i), some (.inl 0), some (.inl 0)]) (st' := []) rfl ?_
        refine jx_val_in (D := 4) (by omega) hJ i0 (by omega) (fun s4 H4 => ?_) i.toNat (j := 0) (by omega) (by omega) (.inr ⟨rfl, fun hh => hg hh.1⟩)
        have hs01 := jx_vi_01 H4
        refine jw_W_n 2 (i' := 36) (ls' := [some (.inr (.inr 57)), some (.inl m), some (.inl i), some (.inl s4), some (.inl i)]) (st' := [.inl s4, .inl m]) rfl ?_
        refine jw_W_if rfl (by unfold jw_rg; omega) (fun hc1 => ?_) (fun hc1 => ?_)
        · have hc1 : s4 = 0 := hc1
          refine jw_W_n 5 (i' := 4) (ls' := [some (.inr (.inr 57)), some (.inl (m + 0)), some (.inl (i + 1)), some (.inl s4), some (.inl i)]) (st' := []) rfl ?_
          rw [Int.add_zero]
          exact ih (by omega) (jx_cn_no i0 H (jx_vi_d (show jx_vi σ i i 0 from (show s4 = 0 by omega) ▸ H4) (Int.le_refl _)))
        · have hc1 : ¬ (s4 = 0) := hc1
          refine jw_W_n 6 (i' := 4) (ls' := [some (.inr (.inr 57)), some (.inl (m + 1)), some (.inl (i + 1)), some (.inl s4), some (.inl i)]) (st' := []) rfl ?_
          exact ih (by omega) (jx_cn_yes i0 H (by rcases H4 with ⟨-, h1, h2⟩ | ⟨h, -⟩; exact ⟨h1, h2⟩; omega))
theorem jx_values {n : Nat} {σ : jw_H} {o : Nat} {C : List (ge_R × Int)} (hJ : jx_KJ n o C σ)  : jw_T (js_S n) 5 26 [.inr (.inr 57)] σ (fun r σ' => r = some (.inl (jx_cn (fun c => jm_nv σ c) (σ 103 56).toNat)) ∧ σ' = σ) := by
  refine jw_T_of (D := 4) (M := mm_26) rfl (Nat.le_of_ble_eq_true rfl) (ls0 := [some (.inr (.inr 57)), none, none, none, none]) rfl ?_ (by rintro _ _ ⟨rfl, -⟩; rfl)
  have hI := hJ.1
  have hKN := hJ.2.1
  have hjd := hJ.2.2.2
  obtain ⟨hto, hfo, hp, hP, e0, e1, e2, hPm, hcb, c0, p0, -⟩ := jx_I0_x hI
  have ho := hp.1
  have hq := hP.1
  have hw := hP.2.1
  have hq2 := hP.2.2.1
  have hcn := hcb.1
  refine jw_W_n 4 (i' := 4) (ls' := [some (.inr (.inr 57)), some (.inl 0), some (.inl 0), none, none]) (st' := []) rfl ?_
  exact jx_val_loop hJ (σ 103 56).toNat (i := 0) (m := 0) (by omega) (by omega) rfl
theorem jm_val_in {n : Nat} {σ : jw_H} {D : Nat} {i m : Int} {Q : Option jw_V → jw_H → Prop} (hD : 3 ≤ D) {C : List (ge_R × Int)} (hKN : jm_KN σ C) (i0 : 0 ≤ i) (i1 : i < σ 103 56) (hQ : ∀ j s, jx_vi σ i j s → (j = i ∨ j ≤ i ∧ s = 0) → jw_W (js_S n) D md_271 36 [some (.inr (.inr 103)), some (.inl m), some (.inl i), some (.inl s), some (.inl j)] [] σ Q) : ∀ (f : Nat) {j s : Int}, 0 ≤ j → j + f = i → jx_vi σ i j s → jw_W (js_S n) D md_271 15 [some (.inr (.inr 103)), some (.inl m), some (.inl i), some (.inl s), some (.inl j)] [] σ Q
  | f, j, s, j0, hk, H => by
    have ih : ∀ {s' : Int}, j < i → jx_vi σ i (j + 1) s' → jw_W (js_S n) D md_271 15 [some (.inr (.inr 103)), some (.inl m), some (.inl i), some (.inl s'), some (.inl (j + 1))] [] σ Q := by
      intro s' h1 h2
      match f, hk with
      | 0, hk => omega
      | f + 1, hk => exact jm_val_in hD hKN i0 i1 hQ f (by omega) (by omega) h2
    have hs01 := jx_vi_01 H
    have hcb := (jm_kw_cbd hKN.1).2 σ (jm_fk_rf σ)
    have hcn := hcb.1
    have hPm := hKN.1.1
    have hqq := hPm.1
    have hww := hPm.2.1
    have hkk := hPm.2.2.1
    have hg57 := hKN.2.2.1.1
    have hg58 := hKN.2.2.2.1.1
    refine jw_W_n 2 (i' := 17) (ls' := [some (.inr (.inr 103)), some (.inl m), some (.inl i), some (.inl s), some (.inl j)]) (st' := [.inl i, .inl j]) rfl ?_
    refine jw_W_ic rfl (by unfold jw_rg; omega) (by unfold jw_rg; omega) (fun hc1 => ?_) (fun hc1 => ?_)
    · have hc1 : j ≥ i := hc1
      exact hQ _ _ H (by omega)
    · have hc1 : ¬ (j ≥ i) := hc1
      refine jw_W_n 1 (i' := 19) (ls' := [some (.inr (.inr 103)), some (.inl m), some (.inl i), some (.inl s), some (.inl j)]) (st' := [.inl s]) rfl ?_
      refine jw_W_if rfl (by unfold jw_rg; omega) (fun hc2 => ?_) (fun hc2 => ?_)
      · have hc2 : s = 0 := hc2
        exact hQ _ _ H (by omega)
      · have hc2 : ¬ (s = 0) := hc2
        refine jw_W_n 1 (i' := 21) (ls' := [some (.inr (.inr 103)), some (.inl m), some (.inl i), some (.inl s), some (.inl j)]) (st' := [.inr (.inr 103)]) rfl ?_
        refine jw_W_gf rfl rfl rfl ?_
        show jw_W (js_S n) _ md_271 22 [some (.inr (.inr 103)), some (.inl m), some (.inl i), some (.inl s), some (.inl j)] [.inl (σ 103 57)] σ _
        refine jw_W_n 1 (i' := 23) (ls' := [some (.inr (.inr 103)), some (.inl m), some (.inl i), some (.inl s), some (.inl j)]) (st' := [.inl j, .inl (σ 103 57)]) rfl ?_
        refine jw_W_call (as := [.inl (σ 103 57), .inl j]) (rest := []) rfl rfl rfl rfl (Nat.le_of_ble_eq_true rfl) (.inl rfl) (jm_has (by omega) (by omega) (by omega) (by omega)) (by omega) ?_ rfl
        rintro r1 σz (⟨rfl, hs, hg⟩ | ⟨rfl, hs, hg⟩)
        · rw [hs]
          show jw_W (js_S n) _ md_271 24 [some (.inr (.inr 103)), some (.inl m), some (.inl i), some (.inl s), some (.inl j)] [.inl 1] σ _
          refine jw_W_if rfl (by unfold jw_rg; omega) (fun hc3 => ?_) (fun hc3 => ?_)
          · exact absurd hc3 (show ¬ ((1 : Int) = 0) by omega)
          · clear hc3
            refine jw_W_n 3 (i' := 28) (ls' := [some (.inr (.inr 103)), some (.inl m), some (.inl i), some (.inl s), some (.inl j)]) (st' := [.inl j, .inl i, .inr (.inr 103)]) rfl ?_
            refine jw_W_call (as := [.inr (.inr 103), .inl i, .inl j]) (rest := []) rfl rfl rfl rfl (Nat.le_of_ble_eq_true rfl) (.inr rfl) (jm_areAlike hKN i0 i1 j0 (by omega)) (by omega) ?_ rfl
            rintro r1 σz (⟨rfl, hs, ha⟩ | ⟨rfl, hs, ha⟩)
            · rw [hs]
              show jw_W (js_S n) _ md_271 29 [some (.inr (.inr 103)), some (.inl m), some (.inl i), some (.inl s), some (.inl j)] [.inl 1] σ _
              refine jw_W_if rfl (by unfold jw_rg; omega) (fun hc4 => ?_) (fun hc4 => ?_)
              · clear hc4
                refine jw_W_n 4 (i' := 15) (ls' := [some (.inr (.inr 103)), some (.inl m), some (.inl i), some (.inl 0), some (.inl (j + 1))]) (st' := []) rfl ?_
                exact ih (by omega) (jx_vi_0 j0 H (by first | exact .inl (by omega) | exact .inr ⟨hg, ha⟩))
              · exact absurd hc4 (show ¬ ¬ ((1 : Int) ≠ 0) by omega)
            · rw [hs]
              show jw_W (js_S n) _ md_271 29 [some (.inr (.inr 103)), some (.inl m), some (.inl i), some (.inl s), some (.inl j)] [.inl 0] σ _
              refine jw_W_if rfl (by unfold jw_rg; omega) (fun hc5 => ?_) (fun hc5 => ?_)
              · exact absurd hc5 (show ¬ ((0 : Int) ≠ 0) by omega)
              · clear hc5
                refine jw_W_n 5 (i' := 15) (ls' := [some (.inr (.inr 103)), some (.inl m), some (.inl i), some (.inl 1), some (.inl (j + 1))]) (st' := []) rfl ?_
                exact ih (by omega) (jx_vi_1 H (by omega) (fun hh => by first | exact hg hh.1 | exact ha hh.2))
        · rw [hs]
          show jw_W (js_S n) _ md_271 24 [some (.inr (.inr 103)), some (.inl m), some (.inl i), some (.inl s), some (.inl j)] [.inl 0] σ _
          refine jw_W_if rfl (by unfold jw_rg; omega) (fun hc6 => ?_) (fun hc6 => ?_)
          · clear hc6
            refine jw_W_n 5 (i' := 15) (ls' := [some (.inr (.inr 103)), some (.inl m), some (.inl i), some (.inl 1), some (.inl (j + 1))]) (st' := []) rfl ?_
            exact ih (by omega) (jx_vi_1 H (by omega) (fun hh => by first | exact hg hh.1 | exact ha hh.2))
          · exact absurd hc6 (show ¬ ¬ ((0 : Int) = 0) by omega)
theorem jm_val_loop {n : Nat} {σ : jw_H} {C : List (ge_R × Int)} (hKN : jm_KN σ C)  : ∀ (f : Nat) {i m : Int} {a3 a4 : Option jw_V}, 0 ≤ i → i + f = σ 103 56 → m = jx_cn (fun c => jm_nv σ c) i.toNat → jw_W (js_S n) 3 md_271 4 [some (.inr (.inr 103)), some (.inl m), some (.inl i), a3, a4] [] σ (fun r σ' => r = some (.inl (jx_cn (fun c => jm_nv σ c) (σ 103 56).toNat)) ∧ σ' = σ)
  | f, i, m, a3, a4, i0, hk, H => by
    have ih : ∀ {m' : Int} {a3 a4 : Option jw_V}, i < σ 103 56 → m' = jx_cn (fun c => jm_nv σ c) (i + 1).toNat → jw_W (js_S n) 3 md_271 4 [some (.inr (.inr 103)), some (.inl m'), some (.inl (i + 1)), a3, a4] [] σ (fun r σ' => r = some (.inl (jx_cn (fun c => jm_nv σ c) (σ 103 56).toNat)) ∧ σ' = σ) := by
      intro m' a3 a4 h1 h2
      match f, hk with
      | 0, hk => omega
      | f + 1, hk => exact jm_val_loop hKN f (by omega) (by omega) h2
    have hcb := (jm_kw_cbd hKN.1).2 σ (jm_fk_rf σ)
    have hcn := hcb.1
    have hPm := hKN.1.1
    have hqq := hPm.1
    have hww := hPm.2.1
    have hkk := hPm.2.2.1
    have hg57 := hKN.2.2.1.1
    have hg58 := hKN.2.2.2.1.1
    refine jw_W_n 2 (i' := 6) (ls' := [some (.inr (.inr 103)), some (.inl m), some (.inl i), a3, a4]) (st' := [.inr (.inr 103), .inl i]) rfl ?_
    refine jw_W_gf rfl rfl rfl ?_
    show jw_W (js_S n) _ md_271 7 [some (.inr (.inr 103)), some (.inl m), some (.inl i), a3, a4] [.inl (σ 103 56), .inl i] σ _
    refine jw_W_ic rfl (by unfold jw_rg; omega) (by unfold jw_rg; omega) (fun hc1 => ?_) (fun hc1 => ?_)
    · have hc1 : i ≥ (σ 103 56) := hc1
      refine jw_W_n 1 (i' := 45) (ls' := [some (.inr (.inr 103)), some (.inl m), some (.inl i), a3, a4]) (st' := [.inl m]) rfl ?_
      refine jw_W_ir rfl ?_
      have hkl : i = σ 103 56 := by omega
      subst hkl
      exact ⟨by rw [H], rfl⟩
    · have hc1 : ¬ (i ≥ (σ 103 56)) := hc1
      refine jw_W_n 1 (i' := 9) (ls' := [some (.inr (.inr 103)), some (.inl m), some (.inl i), a3, a4]) (st' := [.inr (.inr 103)]) rfl ?_
      refine jw_W_gf rfl rfl rfl ?_
      show jw_W (js_S n) _ md_271 10 [some (.inr (.inr 103)), some (.inl m), some (.inl i), a3, a4] [.inl (σ 103 57)] σ _
      refine jw_W_n 1 (i' := 11) (ls' := [some (.inr (.inr 103)), some (.inl m), some (.inl i), a3, a4]) (st' := [.inl i, .inl (σ 103 57)]) rfl ?_
      refine jw_W_call (as := [.inl (σ 103 57), .inl i]) (rest := []) rfl rfl rfl rfl (Nat.le_of_ble_eq_true rfl) (.inl rfl) (jm_has (by omega) (by omega) (by omega) (by omega)) (by omega) ?_ rfl
      rintro r1 σz (⟨rfl, hs, hg⟩ | ⟨rfl, hs, hg⟩)
      · rw [hs]
        show jw_W (js_S n) _ md_271 12 [some (.inr (.inr 103)), some (.inl m), some (.inl i), a3, a4] [.inl 1] σ _
        refine jw_W_n 3 (i' := 15) (ls' := [some (.inr (.inr 103)), some (.inl m), some (.inl i), some (.inl 1), some (.inl 0)]) (st' := []) rfl ?_
        refine jm_val_in (D := 3) (by omega) hKN i0 (by omega) (fun j4 s4 H4 hj4 => ?_) i.toNat (j := 0) (by omega) (by omega) (.inl ⟨rfl, hg, fun c c0 c1 => by omega⟩)
        have hs01 := jx_vi_01 H4
        refine jw_W_n 1 (i' := 37) (ls' := [some (.inr (.inr 103)), some (.inl m), some (.inl i), some (.inl s4), some (.inl j4)]) (st' := [.inl s4]) rfl ?_
        refine jw_W_if rfl (by unfold jw_rg; omega) (fun hc1 => ?_) (fun hc1 => ?_)
        · have hc1 : s4 = 0 := hc1
          refine jw_W_n 2 (i' := 4) (ls' := [some (.inr (.inr 103)), some (.inl m), some (.inl (i + 1)), some (.inl s4), some (.inl j4)]) (st' := []) rfl ?_
          exact ih (by omega) (jx_cn_no i0 H (jx_vi_d (show jx_vi σ i j4 0 from (show s4 = 0 by omega) ▸ H4) (by omega)))
        · have hc1 : ¬ (s4 = 0) := hc1
          refine jw_W_n 6 (i' := 4) (ls' := [some (.inr (.inr 103)), some (.inl (m + 1)), some (.inl (i + 1)), some (.inl s4), some (.inl j4)]) (st' := []) rfl ?_
          exact ih (by omega) (jx_cn_yes i0 H (by rcases H4 with ⟨-, h1, h2⟩ | ⟨h, -⟩; exact ⟨h1, fun c c0 c1 => h2 c c0 (by omega)⟩; omega))
      · rw [hs]
        show jw_W (js_S n) _ md_271 12 [some (.inr (.inr 103)), some (.inl m), some (.inl i), a3, a4] [.inl 0] σ _
        refine jw_W_n 3 (i' := 15) (ls' := [some (.inr (.inr 103)), some (.inl m), some (.inl i), some (.inl 0), some (.inl 0)]) (st' := []) rfl ?_
        refine jm_val_in (D := 3) (by omega) hKN i0 (by omega) (fun j4 s4 H4 hj4 => ?_) i.toNat (j := 0) (by omega) (by omega) (.inr ⟨rfl, fun hh => hg hh.1⟩)
        have hs01 := jx_vi_01 H4
        refine jw_W_n 1 (i' := 37) (ls' := [some (.inr (.inr 103)), some (.inl m), some (.inl i), some (.inl s4), some (.inl j4)]) (st' := [.inl s4]) rfl ?_
        refine jw_W_if rfl (by unfold jw_rg; omega) (fun hc1 => ?_) (fun hc1 => ?_)
        · have hc1 : s4 = 0 := hc1
          refine jw_W_n 2 (i' := 4) (ls' := [some (.inr (.inr 103)), some (.inl m), some (.inl (i + 1)), some (.inl s4), some (.inl j4)]) (st' := []) rfl ?_
          exact ih (by omega) (jx_cn_no i0 H (jx_vi_d (show jx_vi σ i j4 0 from (show s4 = 0 by omega) ▸ H4) (by omega)))
        · have hc1 : ¬ (s4 = 0) := hc1
          refine jw_W_n 6 (i' := 4) (ls' := [some (.inr (.inr 103)), some (.inl (m + 1)), some (.inl (i + 1)), some (.inl s4), some (.inl j4)]) (st' := []) rfl ?_
          exact ih (by omega) (jx_cn_yes i0 H (by rcases H4 with ⟨-, h1, h2⟩ | ⟨h, -⟩; exact ⟨h1, fun c c0 c1 => h2 c c0 (by omega)⟩; omega))
theorem jm_values {n : Nat} {σ : jw_H} {C : List (ge_R × Int)} (hKN : jm_KN σ C)  : jw_T (js_S n) 4 271 [.inr (.inr 103)] σ (fun r σ' => r = some (.inl (jx_cn (fun c => jm_nv σ c) (σ 103 56).toNat)) ∧ σ' = σ) := by
  refine jw_T_of (D := 3) (M := mm_271) rfl (Nat.le_of_ble_eq_true rfl) (ls0 := [some (.inr (.inr 103)), none, none, none, none]) rfl ?_ (by rintro _ _ ⟨rfl, -⟩; rfl)
  have hcb := (jm_kw_cbd hKN.1).2 σ (jm_fk_rf σ)
  have hcn := hcb.1
  have hPm := hKN.1.1
  have hqq := hPm.1
  have hww := hPm.2.1
  have hkk := hPm.2.2.1
  have hg57 := hKN.2.2.1.1
  have hg58 := hKN.2.2.2.1.1
  refine jw_W_n 4 (i' := 4) (ls' := [some (.inr (.inr 103)), some (.inl 0), some (.inl 0), none, none]) (st' := []) rfl ?_
  exact jm_val_loop hKN (σ 103 56).toNat (i := 0) (m := 0) (by omega) (by omega) rfl
theorem jm_tg {σ : jw_H} {C : List (ge_R × Int)} (hK : jm_KN σ C) {i : Int} (i0 : 0 ≤ i) (i1 : i < σ 103 56) : (0 ≤ σ 136 i ∧ σ 136 i ≤ 1023) ∧ jm_tau (jm_bA σ) (jm_ct σ i) (σ 136 i) ∧ ge_V (jm_R σ) (jm_ct σ i) ∧ ge_g (jm_ct σ i) = 1 := by
  have hc := hK.1.2.1
  have hl := hc.1.1
  have hg := List.getElem?_eq_getElem (l := C) (i := i.toNat) (by omega)
  have e := hc.1.2 _ _ hg
  rw [Int.toNat_of_nonneg i0] at e
  have hm := hc.2.1.1 _ (List.getElem_mem (l := C) (n := i.toNat) (by omega))
  rw [← e.1, ← e.2] at hm
  exact ⟨jx_tau_1023 hK.1.1 hm.2.2, hm.2.2, hm.1, hm.2.1⟩
theorem jm_crowded_loop {n : Nat} {σ : jw_H} {C : List (ge_R × Int)} (hKN : jm_KN σ C)  : ∀ (f : Nat) {j m : Int}, 0 ≤ j → j + f = σ 103 56 → m = jx_cn (fun c => σ 103 3 < jx_cn (fun k => jb_in (σ 136 c) k.toNat) 20) j.toNat → jw_W (js_S n) 1 md_272 4 [some (.inr (.inr 103)), some (.inl m), some (.inl j)] [] σ (fun r σ' => r = some (.inl (jx_cn (fun c => σ 103 3 < jx_cn (fun k => jb_in (σ 136 c) k.toNat) 20) (σ 103 56).toNat)) ∧ σ' = σ)
  | f, j, m, j0, hk, H => by
    have ih : ∀ {m' : Int}, j < σ 103 56 → m' = jx_cn (fun c => σ 103 3 < jx_cn (fun k => jb_in (σ 136 c) k.toNat) 20) (j + 1).toNat → jw_W (js_S n) 1 md_272 4 [some (.inr (.inr 103)), some (.inl m'), some (.inl (j + 1))] [] σ (fun r σ' => r = some (.inl (jx_cn (fun c => σ 103 3 < jx_cn (fun k => jb_in (σ 136 c) k.toNat) 20) (σ 103 56).toNat)) ∧ σ' = σ) := by
      intro m' h1 h2
      match f, hk with
      | 0, hk => omega
      | f + 1, hk => exact jm_crowded_loop hKN f (by omega) (by omega) h2
    have hcb := (jm_kw_cbd hKN.1).2 σ (jm_fk_rf σ)
    have hcn := hcb.1
    have hPm := hKN.1.1
    have hqq := hPm.1
    have hww := hPm.2.1
    have hkk := hPm.2.2.1
    have hg57 := hKN.2.2.1.1
    have hg58 := hKN.2.2.2.1.1
    refine jw_W_n 2 (i' := 6) (ls' := [some (.inr (.inr 103)), some (.inl m), some (.inl j)]) (st' := [.inr (.inr 103), .inl j]) rfl ?_
    refine jw_W_gf rfl rfl rfl ?_
    show jw_W (js_S n) _ md_272 7 [some (.inr (.inr 103)), some (.inl m), some (.inl j)] [.inl (σ 103 56), .inl j] σ _
    refine jw_W_ic rfl (by unfold jw_rg; omega) (by unfold jw_rg; omega) (fun hc1 => ?_) (fun hc1 => ?_)
    · have hc1 : j ≥ (σ 103 56) := hc1
      refine jw_W_n 1 (i' := 23) (ls' := [some (.inr (.inr 103)), some (.inl m), some (.inl j)]) (st' := [.inl m]) rfl ?_
      refine jw_W_ir rfl ?_
      have hkl : j = σ 103 56 := by omega
      subst hkl
      exact ⟨by rw [H], rfl⟩
    · have hc1 : ¬ (j ≥ (σ 103 56)) := hc1
      refine jw_W_n 1 (i' := 9) (ls' := [some (.inr (.inr 103)), some (.inl m), some (.inl j)]) (st' := [.inr (.inr 103)]) rfl ?_
      refine jw_W_gf rfl rfl rfl ?_
      show jw_W (js_S n) _ md_272 10 [some (.inr (.inr 103)), some (.inl m), some (.inl j)] [.inr (.inr 136)] σ _
      refine jw_W_n 1 (i' := 11) (ls' := [some (.inr (.inr 103)), some (.inl m), some (.inl j)]) (st' := [.inl j, .inr (.inr 136)]) rfl ?_
      refine jw_W_ia rfl rfl (by omega) (by omega) (by omega) ?_
      show jw_W (js_S n) _ md_272 12 [some (.inr (.inr 103)), some (.inl m), some (.inl j)] [.inl (σ 136 j)] σ _
      have htg := (jm_tg hKN j0 (show j < σ 103 56 by omega)).1
      refine jw_W_call (as := [.inl (σ 136 j)]) (rest := []) rfl rfl rfl rfl (Nat.le_of_ble_eq_true rfl) (.inl rfl) (jx_sizeOf htg.1 (by omega)) (by omega) ?_ rfl
      rintro r1 σz ⟨rfl, hs⟩
      rw [hs]
      have hbl := jx_cn_le (fun k => jb_in (σ 136 j) k.toNat) 20
      show jw_W (js_S n) _ md_272 13 [some (.inr (.inr 103)), some (.inl m), some (.inl j)] [.inl (jx_cn (fun k => jb_in (σ 136 j) k.toNat) 20)] σ _
      refine jw_W_n 1 (i' := 14) (ls' := [some (.inr (.inr 103)), some (.inl m), some (.inl j)]) (st' := [.inr (.inr 103), .inl (jx_cn (fun k => jb_in (σ 136 j) k.toNat) 20)]) rfl ?_
      refine jw_W_gf rfl rfl rfl ?_
      show jw_W (js_S n) _ md_272 15 [some (.inr (.inr 103)), some (.inl m), some (.inl j)] [.inl (σ 103 3), .inl (jx_cn (fun k => jb_in (σ 136 j) k.toNat) 20)] σ _
      refine jw_W_ic rfl (by unfold jw_rg; omega) (by unfold jw_rg; omega) (fun hc2 => ?_) (fun hc2 => ?_)
      · have hc2 : (jx_cn (fun k => jb_in (σ 136 j) k.toNat) 20) ≤ (σ 103 3) := hc2
        refine jw_W_n 2 (i' := 4) (ls' := [some (.inr (.inr 103)), some (.inl m), some (.inl (j + 1))]) (st' := []) rfl ?_
        exact ih (by omega) (jx_cn_no j0 H (by omega))
      · have hc2 : ¬ ((jx_cn (fun k => jb_in (σ 136 j) k.toNat) 20) ≤ (σ 103 3)) := hc2
        refine jw_W_n 6 (i' := 4) (ls' := [some (.inr (.inr 103)), some (.inl (m + 1)), some (.inl (j + 1))]) (st' := []) rfl ?_
        exact ih (by omega) (jx_cn_yes j0 H (by omega))
theorem jm_crowded {n : Nat} {σ : jw_H} {C : List (ge_R × Int)} (hKN : jm_KN σ C)  : jw_T (js_S n) 2 272 [.inr (.inr 103)] σ (fun r σ' => r = some (.inl (jx_cn (fun c => σ 103 3 < jx_cn (fun k => jb_in (σ 136 c) k.toNat) 20) (σ 103 56).toNat)) ∧ σ' = σ) := by
  refine jw_T_of (D := 1) (M := mm_272) rfl (Nat.le_of_ble_eq_true rfl) (ls0 := [some (.inr (.inr 103)), none, none]) rfl ?_ (by rintro _ _ ⟨rfl, -⟩; rfl)
  have hcb := (jm_kw_cbd hKN.1).2 σ (jm_fk_rf σ)
  have hcn := hcb.1
  have hPm := hKN.1.1
  have hqq := hPm.1
  have hww := hPm.2.1
  have hkk := hPm.2.2.1
  have hg57 := hKN.2.2.1.1
  have hg58 := hKN.2.2.2.1.1
  refine jw_W_n 4 (i' := 4) (ls' := [some (.inr (.inr 103)), some (.inl 0), some (.inl 0)]) (st' := []) rfl ?_
  exact jm_crowded_loop hKN (σ 103 56).toNat (j := 0) (m := 0) (by omega) (by omega) rfl
theorem jm_onPlane_loop {n : Nat} {σ : jw_H} {C : List (ge_R × Int)} (hKN : jm_KN σ C) {k : Int} (k0 : 0 ≤ k) (k1 : k < 20)  : ∀ (f : Nat) {j m : Int}, 0 ≤ j → j + f = σ 103 56 → m = jx_cn (fun c => jb_in (σ 136 c) k.toNat) j.toNat → jw_W (js_S n) 1 md_273 4 [some (.inr (.inr 103)), some (.inl k), some (.inl m), some (.inl j)] [] σ (fun r σ' => r = some (.inl (jx_cn (fun c => jb_in (σ 136 c) k.toNat) (σ 103 56).toNat)) ∧ σ' = σ)
  | f, j, m, j0, hk, H => by
    have ih : ∀ {m' : Int}, j < σ 103 56 → m' = jx_cn (fun c => jb_in (σ 136 c) k.toNat) (j + 1).toNat → jw_W (js_S n) 1 md_273 4 [some (.inr (.inr 103)), some (.inl k), some (.inl m'), some (.inl (j + 1))] [] σ (fun r σ' => r = some (.inl (jx_cn (fun c => jb_in (σ 136 c) k.toNat) (σ 103 56).toNat)) ∧ σ' = σ) := by
      intro m' h1 h2
      match f, hk with
      | 0, hk => omega
      | f + 1, hk => exact jm_onPlane_loop hKN k0 k1 f (by omega) (by omega) h2
    have hcb := (jm_kw_cbd hKN.1).2 σ (jm_fk_rf σ)
    have hcn := hcb.1
    have hPm := hKN.1.1
    have hqq := hPm.1
    have hww := hPm.2.1
    have hkk := hPm.2.2.1
    have hg57 := hKN.2.2.1.1
    have hg58 := hKN.2.2.2.1.1
    refine jw_W_n 2 (i' := 6) (ls' := [some (.inr (.inr 103)), some (.inl k), some (.inl m), some (.inl j)]) (st' := [.inr (.inr 103), .inl j]) rfl ?_
    refine jw_W_gf rfl rfl rfl ?_
    show jw_W (js_S n) _ md_273 7 [some (.inr (.inr 103)), some (.inl k), some (.inl m), some (.inl j)] [.inl (σ 103 56), .inl j] σ _
    refine jw_W_ic rfl (by unfold jw_rg; omega) (by unfold jw_rg; omega) (fun hc1 => ?_) (fun hc1 => ?_)
    · have hc1 : j ≥ (σ 103 56) := hc1
      refine jw_W_n 1 (i' := 22) (ls' := [some (.inr (.inr 103)), some (.inl k), some (.inl m), some (.inl j)]) (st' := [.inl m]) rfl ?_
      refine jw_W_ir rfl ?_
      have hkl : j = σ 103 56 := by omega
      subst hkl
      exact ⟨by rw [H], rfl⟩
    · have hc1 : ¬ (j ≥ (σ 103 56)) := hc1
      refine jw_W_n 1 (i' := 9) (ls' := [some (.inr (.inr 103)), some (.inl k), some (.inl m), some (.inl j)]) (st' := [.inr (.inr 103)]) rfl ?_
      refine jw_W_gf rfl rfl rfl ?_
      show jw_W (js_S n) _ md_273 10 [some (.inr (.inr 103)), some (.inl k), some (.inl m), some (.inl j)] [.inr (.inr 136)] σ _
      refine jw_W_n 1 (i' := 11) (ls' := [some (.inr (.inr 103)), some (.inl k), some (.inl m), some (.inl j)]) (st' := [.inl j, .inr (.inr 136)]) rfl ?_
      refine jw_W_ia rfl rfl (by omega) (by omega) (by omega) ?_
      show jw_W (js_S n) _ md_273 12 [some (.inr (.inr 103)), some (.inl k), some (.inl m), some (.inl j)] [.inl (σ 136 j)] σ _
      have htg := (jm_tg hKN j0 (show j < σ 103 56 by omega)).1
      refine jw_W_n 1 (i' := 13) (ls' := [some (.inr (.inr 103)), some (.inl k), some (.inl m), some (.inl j)]) (st' := [.inl k, .inl (σ 136 j)]) rfl ?_
      refine jw_W_call (as := [.inl (σ 136 j), .inl k]) (rest := []) rfl rfl rfl rfl (Nat.le_of_ble_eq_true rfl) (.inl rfl) (jm_has (by omega) (by omega) (by omega) (by omega)) (by omega) ?_ rfl
      rintro r1 σz (⟨rfl, hs, hg⟩ | ⟨rfl, hs, hg⟩)
      · rw [hs]
        show jw_W (js_S n) _ md_273 14 [some (.inr (.inr 103)), some (.inl k), some (.inl m), some (.inl j)] [.inl 1] σ _
        refine jw_W_if rfl (by unfold jw_rg; omega) (fun hc2 => ?_) (fun hc2 => ?_)
        · exact absurd hc2 (show ¬ ((1 : Int) = 0) by omega)
        · clear hc2
          refine jw_W_n 6 (i' := 4) (ls' := [some (.inr (.inr 103)), some (.inl k), some (.inl (m + 1)), some (.inl (j + 1))]) (st' := []) rfl ?_
          exact ih (by omega) (jx_cn_yes j0 H (hg))
      · rw [hs]
        show jw_W (js_S n) _ md_273 14 [some (.inr (.inr 103)), some (.inl k), some (.inl m), some (.inl j)] [.inl 0] σ _
        refine jw_W_if rfl (by unfold jw_rg; omega) (fun hc3 => ?_) (fun hc3 => ?_)
        · clear hc3
          refine jw_W_n 2 (i' := 4) (ls' := [some (.inr (.inr 103)), some (.inl k), some (.inl m), some (.inl (j + 1))]) (st' := []) rfl ?_
          exact ih (by omega) (jx_cn_no j0 H (hg))
        · exact absurd hc3 (show ¬ ¬ ((0 : Int) = 0) by omega)
theorem jm_onPlane {n : Nat} {σ : jw_H} {C : List (ge_R × Int)} (hKN : jm_KN σ C) {k : Int} (k0 : 0 ≤ k) (k1 : k < 20)  : jw_T (js_S n) 2 273 [.inr (.inr 103), .inl k] σ (fun r σ' => r = some (.inl (jx_cn (fun c => jb_in (σ 136 c) k.toNat) (σ 103 56).toNat)) ∧ σ' = σ) := by
  refine jw_T_of (D := 1) (M := mm_273) rfl (Nat.le_of_ble_eq_true rfl) (ls0 := [some (.inr (.inr 103)), some (.inl k), none, none]) rfl ?_ (by rintro _ _ ⟨rfl, -⟩; rfl)
  have hcb := (jm_kw_cbd hKN.1).2 σ (jm_fk_rf σ)
  have hcn := hcb.1
  have hPm := hKN.1.1
  have hqq := hPm.1
  have hww := hPm.2.1
  have hkk := hPm.2.2.1
  have hg57 := hKN.2.2.1.1
  have hg58 := hKN.2.2.2.1.1
  refine jw_W_n 4 (i' := 4) (ls' := [some (.inr (.inr 103)), some (.inl k), some (.inl 0), some (.inl 0)]) (st' := []) rfl ?_
  exact jm_onPlane_loop hKN k0 k1 (σ 103 56).toNat (j := 0) (m := 0) (by omega) (by omega) rfl

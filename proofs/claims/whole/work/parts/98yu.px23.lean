/-! ===== edges, layers, values, crowded corners: class and reference ===== -/
/-- a sum over the first ones -/
def jx_sm (f : Int → Int) : Nat → Int
  | 0 => 0
  | k + 1 => jx_sm f k + f (k : Int)
theorem jx_sm_s {f : Int → Int} {j : Int} (j0 : 0 ≤ j) : jx_sm f (j + 1).toNat = jx_sm f j.toNat + f j := by
  rw [show (j + 1).toNat = j.toNat + 1 by omega]
  show jx_sm f j.toNat + f ((j.toNat : Nat) : Int) = _
  rw [Int.toNat_of_nonneg j0]
theorem jx_sm_bd {f : Int → Int} {B : Int} (B0 : 0 ≤ B) : ∀ {m : Nat}, (∀ k : Int, 0 ≤ k → k < m → 0 ≤ f k ∧ f k ≤ B) → 0 ≤ jx_sm f m ∧ jx_sm f m ≤ B * m
  | 0, _ => by
    unfold jx_sm
    omega
  | m + 1, h => by
    have h1 := jx_sm_bd B0 (m := m) (fun k h0 h1 => h k h0 (by omega))
    have h2 := h (m : Int) (by omega) (by omega)
    unfold jx_sm
    have e : B * ((m + 1 : Nat) : Int) = B * (m : Int) + B := by
      rw [show ((m + 1 : Nat) : Int) = (m : Int) + 1 by omega, Int.mul_add, Int.mul_one]
    omega
/-- how many edges -/
noncomputable def jm_eds (σ : jw_H) (o : Nat) : Int := jx_sm (fun i => jx_cn (fun c => jm_nx σ o i c) (σ 103 56).toNat) (σ 103 56).toNat / 2
theorem jm_eds_bd (σ : jw_H) (o : Nat) (hn : 0 ≤ σ 103 56 ∧ σ 103 56 ≤ 20) {j : Int} (j0 : 0 ≤ j) (j1 : j ≤ 20) : 0 ≤ jx_sm (fun i => jx_cn (fun c => jm_nx σ o i c) (σ 103 56).toNat) j.toNat ∧ jx_sm (fun i => jx_cn (fun c => jm_nx σ o i c) (σ 103 56).toNat) j.toNat ≤ 400 := by
  have h := jx_sm_bd (f := fun i => jx_cn (fun c => jm_nx σ o i c) (σ 103 56).toNat) (B := 20) (by omega) (m := j.toNat) (fun k h0 h1 => by
    have := jx_cn_le (fun c => jm_nx σ o k c) (σ 103 56).toNat
    omega)
  omega
theorem jx_links1_loop {n : Nat} {σ : jw_H} {o : Nat} {C : List (ge_R × Int)} (hJ : jx_KJ n o C σ)  : ∀ (f : Nat) {j m : Int}, 0 ≤ j → j + f = σ 103 56 → m = jx_sm (fun i => jx_cn (fun c => jm_nx σ 137 i c) (σ 103 56).toNat) j.toNat → jw_W (js_S n) 1 md_20 4 [some (.inr (.inr 57)), some (.inl 1), some (.inl m), some (.inl j)] [] σ (fun r σ' => r = some (.inl (jm_eds σ 137)) ∧ σ' = σ)
  | f, j, m, j0, hk, H => by
    have ih : ∀ {m' : Int}, j < σ 103 56 → m' = jx_sm (fun i => jx_cn (fun c => jm_nx σ 137 i c) (σ 103 56).toNat) (j + 1).toNat → jw_W (js_S n) 1 md_20 4 [some (.inr (.inr 57)), some (.inl 1), some (.inl m'), some (.inl (j + 1))] [] σ (fun r σ' => r = some (.inl (jm_eds σ 137)) ∧ σ' = σ) := by
      intro m' h1 h2
      match f, hk with
      | 0, hk => omega
      | f + 1, hk => exact jx_links1_loop hJ f (by omega) (by omega) h2
    have hI := hJ.1
    have hKN := hJ.2.1
    have hjd := hJ.2.2.2
    obtain ⟨hto, hfo, hp, hP, e0, e1, e2, hPm, hcb, c0, p0, -⟩ := jx_I0_x hI
    have ho := hp.1
    have hq := hP.1
    have hw := hP.2.1
    have hq2 := hP.2.2.1
    have hcn := hcb.1
    refine jw_W_n 2 (i' := 6) (ls' := [some (.inr (.inr 57)), some (.inl 1), some (.inl m), some (.inl j)]) (st' := [.inr (.inr 57), .inl j]) rfl ?_
    refine jw_W_gf rfl rfl rfl ?_
    show jw_W (js_S n) _ md_20 7 [some (.inr (.inr 57)), some (.inl 1), some (.inl m), some (.inl j)] [.inl (σ 57 0), .inl j] σ _
    refine jw_W_ic rfl (by unfold jw_rg; omega) (by unfold jw_rg; omega) (fun hc1 => ?_) (fun hc1 => ?_)
    · have hc1 : j ≥ (σ 57 0) := hc1
      refine jw_W_n 2 (i' := 19) (ls' := [some (.inr (.inr 57)), some (.inl 1), some (.inl m), some (.inl j)]) (st' := [.inl 2, .inl m]) rfl ?_
      have hbb := jm_eds_bd σ 137 hcn j0 (by omega)
      refine jw_W_idiv rfl (by unfold jw_rg; omega) (by omega) ?_
      rw [(jm_half m (by omega) (by omega)).1]
      refine jw_W_ir rfl ?_
      have hkl : j = σ 103 56 := by omega
      subst hkl
      exact ⟨by rw [H]; rfl, rfl⟩
    · have hc1 : ¬ (j ≥ (σ 57 0)) := hc1
      refine jw_W_n 4 (i' := 12) (ls' := [some (.inr (.inr 57)), some (.inl 1), some (.inl m), some (.inl j)]) (st' := [.inl 1, .inl j, .inr (.inr 57), .inl m]) rfl ?_
      refine jw_W_call (as := [.inr (.inr 57), .inl j, .inl 1]) (rest := [.inl m]) rfl rfl rfl rfl (Nat.le_of_ble_eq_true rfl) (.inr rfl) (jx_linksOf1 hJ j0 (by omega)) (by omega) ?_ rfl
      rintro r1 σz ⟨rfl, hs⟩
      rw [hs]
      show jw_W (js_S n) _ md_20 13 [some (.inr (.inr 57)), some (.inl 1), some (.inl m), some (.inl j)] [.inl (jx_cn (fun c => jm_nx σ 137 j c) (σ 103 56).toNat), .inl m] σ _
      refine jw_W_n 4 (i' := 4) (ls' := [some (.inr (.inr 57)), some (.inl 1), some (.inl (m + (jx_cn (fun c => jm_nx σ 137 j c) (σ 103 56).toNat))), some (.inl (j + 1))]) (st' := []) rfl ?_
      exact ih (by omega) (by rw [jx_sm_s j0, H])
theorem jx_links1 {n : Nat} {σ : jw_H} {o : Nat} {C : List (ge_R × Int)} (hJ : jx_KJ n o C σ)  : jw_T (js_S n) 2 20 [.inr (.inr 57), .inl 1] σ (fun r σ' => r = some (.inl (jm_eds σ 137)) ∧ σ' = σ) := by
  refine jw_T_of (D := 1) (M := mm_20) rfl (Nat.le_of_ble_eq_true rfl) (ls0 := [some (.inr (.inr 57)), some (.inl 1), none, none]) rfl ?_ (by rintro _ _ ⟨rfl, -⟩; rfl)
  have hI := hJ.1
  have hKN := hJ.2.1
  have hjd := hJ.2.2.2
  obtain ⟨hto, hfo, hp, hP, e0, e1, e2, hPm, hcb, c0, p0, -⟩ := jx_I0_x hI
  have ho := hp.1
  have hq := hP.1
  have hw := hP.2.1
  have hq2 := hP.2.2.1
  have hcn := hcb.1
  refine jw_W_n 4 (i' := 4) (ls' := [some (.inr (.inr 57)), some (.inl 1), some (.inl 0), some (.inl 0)]) (st' := []) rfl ?_
  exact jx_links1_loop hJ (σ 103 56).toNat (j := 0) (m := 0) (by omega) (by omega) rfl
theorem jm_edges1_loop {n : Nat} {σ : jw_H} {C : List (ge_R × Int)} (hKN : jm_KN σ C) : ∀ (f : Nat) {j m : Int}, 0 ≤ j → j + f = σ 103 56 → m = jx_sm (fun i => jx_cn (fun c => jm_nx σ 137 i c) (σ 103 56).toNat) j.toNat → jw_W (js_S n) 1 md_267 4 [some (.inr (.inr 103)), some (.inr (.inr 137)), some (.inl m), some (.inl j)] [] σ (fun r σ' => r = some (.inl (jm_eds σ 137)) ∧ σ' = σ)
  | f, j, m, j0, hk, H => by
    have ih : ∀ {m' : Int}, j < σ 103 56 → m' = jx_sm (fun i => jx_cn (fun c => jm_nx σ 137 i c) (σ 103 56).toNat) (j + 1).toNat → jw_W (js_S n) 1 md_267 4 [some (.inr (.inr 103)), some (.inr (.inr 137)), some (.inl m'), some (.inl (j + 1))] [] σ (fun r σ' => r = some (.inl (jm_eds σ 137)) ∧ σ' = σ) := by
      intro m' h1 h2
      match f, hk with
      | 0, hk => omega
      | f + 1, hk => exact jm_edges1_loop hKN f (by omega) (by omega) h2
    have hcb := (jm_kw_cbd hKN.1).2 σ (jm_fk_rf σ)
    have hcn := hcb.1
    have hPm := hKN.1.1
    refine jw_W_n 2 (i' := 6) (ls' := [some (.inr (.inr 103)), some (.inr (.inr 137)), some (.inl m), some (.inl j)]) (st' := [.inr (.inr 103), .inl j]) rfl ?_
    refine jw_W_gf rfl rfl rfl ?_
    show jw_W (js_S n) _ md_267 7 [some (.inr (.inr 103)), some (.inr (.inr 137)), some (.inl m), some (.inl j)] [.inl (σ 103 56), .inl j] σ _
    refine jw_W_ic rfl (by unfold jw_rg; omega) (by unfold jw_rg; omega) (fun hc1 => ?_) (fun hc1 => ?_)
    · have hc1 : j ≥ (σ 103 56) := hc1
      refine jw_W_n 2 (i' := 19) (ls' := [some (.inr (.inr 103)), some (.inr (.inr 137)), some (.inl m), some (.inl j)]) (st' := [.inl 2, .inl m]) rfl ?_
      have hbb := jm_eds_bd σ 137 hcn j0 (by omega)
      refine jw_W_idiv rfl (by unfold jw_rg; omega) (by omega) ?_
      rw [(jm_half m (by omega) (by omega)).1]
      refine jw_W_ir rfl ?_
      have hkl : j = σ 103 56 := by omega
      subst hkl
      exact ⟨by rw [H]; rfl, rfl⟩
    · have hc1 : ¬ (j ≥ (σ 103 56)) := hc1
      refine jw_W_n 1 (i' := 9) (ls' := [some (.inr (.inr 103)), some (.inr (.inr 137)), some (.inl m), some (.inl j)]) (st' := [.inl m]) rfl ?_
      have hro := jx_row_cn hKN j0 (show j < σ 103 56 by omega)
      refine jw_W_n 2 (i' := 11) (ls' := [some (.inr (.inr 103)), some (.inr (.inr 137)), some (.inl m), some (.inl j)]) (st' := [.inl j, .inr (.inr 137), .inl m]) rfl ?_
      refine jw_W_ia rfl rfl (by omega) (by omega) (by omega) ?_
      show jw_W (js_S n) _ md_267 12 [some (.inr (.inr 103)), some (.inr (.inr 137)), some (.inl m), some (.inl j)] [.inl (σ 137 j), .inl m] σ _
      refine jw_W_call (as := [.inl (σ 137 j)]) (rest := [.inl m]) rfl rfl rfl rfl (Nat.le_of_ble_eq_true rfl) (.inl rfl) (jx_sizeOf hro.1.1.1 hro.1.1.2) (by omega) ?_ rfl
      rintro r1 σz ⟨rfl, hs⟩
      rw [hs, hro.2.1]
      show jw_W (js_S n) _ md_267 13 [some (.inr (.inr 103)), some (.inr (.inr 137)), some (.inl m), some (.inl j)] [.inl (jx_cn (fun c => jm_nx σ 137 j c) (σ 103 56).toNat), .inl m] σ _
      refine jw_W_n 4 (i' := 4) (ls' := [some (.inr (.inr 103)), some (.inr (.inr 137)), some (.inl (m + (jx_cn (fun c => jm_nx σ 137 j c) (σ 103 56).toNat))), some (.inl (j + 1))]) (st' := []) rfl ?_
      exact ih (by omega) (by rw [jx_sm_s j0, H])
theorem jm_edges1 {n : Nat} {σ : jw_H} {C : List (ge_R × Int)} (hKN : jm_KN σ C) : jw_T (js_S n) 2 267 [.inr (.inr 103), .inr (.inr 137)] σ (fun r σ' => r = some (.inl (jm_eds σ 137)) ∧ σ' = σ) := by
  refine jw_T_of (D := 1) (M := mm_267) rfl (Nat.le_of_ble_eq_true rfl) (ls0 := [some (.inr (.inr 103)), some (.inr (.inr 137)), none, none]) rfl ?_ (by rintro _ _ ⟨rfl, -⟩; rfl)
  have hcb := (jm_kw_cbd hKN.1).2 σ (jm_fk_rf σ)
  have hcn := hcb.1
  have hPm := hKN.1.1
  refine jw_W_n 4 (i' := 4) (ls' := [some (.inr (.inr 103)), some (.inr (.inr 137)), some (.inl 0), some (.inl 0)]) (st' := []) rfl ?_
  exact jm_edges1_loop hKN (σ 103 56).toNat (j := 0) (m := 0) (by omega) (by omega) rfl
theorem jx_links2_loop {n : Nat} {σ : jw_H} {o : Nat} {C : List (ge_R × Int)} (hJ : jx_KJ n o C σ)  : ∀ (f : Nat) {j m : Int}, 0 ≤ j → j + f = σ 103 56 → m = jx_sm (fun i => jx_cn (fun c => jm_nx σ 138 i c) (σ 103 56).toNat) j.toNat → jw_W (js_S n) 1 md_20 4 [some (.inr (.inr 57)), some (.inl 2), some (.inl m), some (.inl j)] [] σ (fun r σ' => r = some (.inl (jm_eds σ 138)) ∧ σ' = σ)
  | f, j, m, j0, hk, H => by
    have ih : ∀ {m' : Int}, j < σ 103 56 → m' = jx_sm (fun i => jx_cn (fun c => jm_nx σ 138 i c) (σ 103 56).toNat) (j + 1).toNat → jw_W (js_S n) 1 md_20 4 [some (.inr (.inr 57)), some (.inl 2), some (.inl m'), some (.inl (j + 1))] [] σ (fun r σ' => r = some (.inl (jm_eds σ 138)) ∧ σ' = σ) := by
      intro m' h1 h2
      match f, hk with
      | 0, hk => omega
      | f + 1, hk => exact jx_links2_loop hJ f (by omega) (by omega) h2
    have hI := hJ.1
    have hKN := hJ.2.1
    have hjd := hJ.2.2.2
    obtain ⟨hto, hfo, hp, hP, e0, e1, e2, hPm, hcb, c0, p0, -⟩ := jx_I0_x hI
    have ho := hp.1
    have hq := hP.1
    have hw := hP.2.1
    have hq2 := hP.2.2.1
    have hcn := hcb.1
    refine jw_W_n 2 (i' := 6) (ls' := [some (.inr (.inr 57)), some (.inl 2), some (.inl m), some (.inl j)]) (st' := [.inr (.inr 57), .inl j]) rfl ?_
    refine jw_W_gf rfl rfl rfl ?_
    show jw_W (js_S n) _ md_20 7 [some (.inr (.inr 57)), some (.inl 2), some (.inl m), some (.inl j)] [.inl (σ 57 0), .inl j] σ _
    refine jw_W_ic rfl (by unfold jw_rg; omega) (by unfold jw_rg; omega) (fun hc1 => ?_) (fun hc1 => ?_)
    · have hc1 : j ≥ (σ 57 0) := hc1
      refine jw_W_n 2 (i' := 19) (ls' := [some (.inr (.inr 57)), some (.inl 2), some (.inl m), some (.inl j)]) (st' := [.inl 2, .inl m]) rfl ?_
      have hbb := jm_eds_bd σ 138 hcn j0 (by omega)
      refine jw_W_idiv rfl (by unfold jw_rg; omega) (by omega) ?_
      rw [(jm_half m (by omega) (by omega)).1]
      refine jw_W_ir rfl ?_
      have hkl : j = σ 103 56 := by omega
      subst hkl
      exact ⟨by rw [H]; rfl, rfl⟩
    · have hc1 : ¬ (j ≥ (σ 57 0)) := hc1
      refine jw_W_n 4 (i' := 12) (ls' := [some (.inr (.inr 57)), some (.inl 2), some (.inl m), some (.inl j)]) (st' := [.inl 2, .inl j, .inr (.inr 57), .inl m]) rfl ?_
      refine jw_W_call (as := [.inr (.inr 57), .inl j, .inl 2]) (rest := [.inl m]) rfl rfl rfl rfl (Nat.le_of_ble_eq_true rfl) (.inr rfl) (jx_linksOf2 hJ j0 (by omega)) (by omega) ?_ rfl
      rintro r1 σz ⟨rfl, hs⟩
      rw [hs]
      show jw_W (js_S n) _ md_20 13 [some (.inr (.inr 57)), some (.inl 2), some (.inl m), some (.inl j)] [.inl (jx_cn (fun c => jm_nx σ 138 j c) (σ 103 56).toNat), .inl m] σ _
      refine jw_W_n 4 (i' := 4) (ls' := [some (.inr (.inr 57)), some (.inl 2), some (.inl (m + (jx_cn (fun c => jm_nx σ 138 j c) (σ 103 56).toNat))), some (.inl (j + 1))]) (st' := []) rfl ?_
      exact ih (by omega) (by rw [jx_sm_s j0, H])
theorem jx_links2 {n : Nat} {σ : jw_H} {o : Nat} {C : List (ge_R × Int)} (hJ : jx_KJ n o C σ)  : jw_T (js_S n) 2 20 [.inr (.inr 57), .inl 2] σ (fun r σ' => r = some (.inl (jm_eds σ 138)) ∧ σ' = σ) := by
  refine jw_T_of (D := 1) (M := mm_20) rfl (Nat.le_of_ble_eq_true rfl) (ls0 := [some (.inr (.inr 57)), some (.inl 2), none, none]) rfl ?_ (by rintro _ _ ⟨rfl, -⟩; rfl)
  have hI := hJ.1
  have hKN := hJ.2.1
  have hjd := hJ.2.2.2
  obtain ⟨hto, hfo, hp, hP, e0, e1, e2, hPm, hcb, c0, p0, -⟩ := jx_I0_x hI
  have ho := hp.1
  have hq := hP.1
  have hw := hP.2.1
  have hq2 := hP.2.2.1
  have hcn := hcb.1
  refine jw_W_n 4 (i' := 4) (ls' := [some (.inr (.inr 57)), some (.inl 2), some (.inl 0), some (.inl 0)]) (st' := []) rfl ?_
  exact jx_links2_loop hJ (σ 103 56).toNat (j := 0) (m := 0) (by omega) (by omega) rfl
theorem jm_edges2_loop {n : Nat} {σ : jw_H} {C : List (ge_R × Int)} (hKN : jm_KN σ C) : ∀ (f : Nat) {j m : Int}, 0 ≤ j → j + f = σ 103 56 → m = jx_sm (fun i => jx_cn (fun c => jm_nx σ 138 i c) (σ 103 56).toNat) j.toNat → jw_W (js_S n) 1 md_267 4 [some (.inr (.inr 103)), some (.inr (.inr 138)), some (.inl m), some (.inl j)] [] σ (fun r σ' => r = some (.inl (jm_eds σ 138)) ∧ σ' = σ)
  | f, j, m, j0, hk, H => by
    have ih : ∀ {m' : Int}, j < σ 103 56 → m' = jx_sm (fun i => jx_cn (fun c => jm_nx σ 138 i c) (σ 103 56).toNat) (j + 1).toNat → jw_W (js_S n) 1 md_267 4 [some (.inr (.inr 103)), some (.inr (.inr 138)), some (.inl m'), some (.inl (j + 1))] [] σ (fun r σ' => r = some (.inl (jm_eds σ 138)) ∧ σ' = σ) := by
      intro m' h1 h2
      match f, hk with
      | 0, hk => omega
      | f + 1, hk => exact jm_edges2_loop hKN f (by omega) (by omega) h2
    have hcb := (jm_kw_cbd hKN.1).2 σ (jm_fk_rf σ)
    have hcn := hcb.1
    have hPm := hKN.1.1
    refine jw_W_n 2 (i' := 6) (ls' := [some (.inr (.inr 103)), some (.inr (.inr 138)), some (.inl m), some (.inl j)]) (st' := [.inr (.inr 103), .inl j]) rfl ?_
    refine jw_W_gf rfl rfl rfl ?_
    show jw_W (js_S n) _ md_267 7 [some (.inr (.inr 103)), some (.inr (.inr 138)), some (.inl m), some (.inl j)] [.inl (σ 103 56), .inl j] σ _
    refine jw_W_ic rfl (by unfold jw_rg; omega) (by unfold jw_rg; omega) (fun hc1 => ?_) (fun hc1 => ?_)
    · have hc1 : j ≥ (σ 103 56) := hc1
      refine jw_W_n 2 (i' := 19) (ls' := [some (.inr (.inr 103)), some (.inr (.inr 138)), some (.inl m), some (.inl j)]) (st' := [.inl 2, .inl m]) rfl ?_
      have hbb := jm_eds_bd σ 138 hcn j0 (by omega)
      refine jw_W_idiv rfl (by unfold jw_rg; omega) (by omega) ?_
      rw [(jm_half m (by omega) (by omega)).1]
      refine jw_W_ir rfl ?_
      have hkl : j = σ 103 56 := by omega
      subst hkl
      exact ⟨by rw [H]; rfl, rfl⟩
    · have hc1 : ¬ (j ≥ (σ 103 56)) := hc1
      refine jw_W_n 1 (i' := 9) (ls' := [some (.inr (.inr 103)), some (.inr (.inr 138)), some (.inl m), some (.inl j)]) (st' := [.inl m]) rfl ?_
      have hro := jx_row_cn hKN j0 (show j < σ 103 56 by omega)
      refine jw_W_n 2 (i' := 11) (ls' := [some (.inr (.inr 103)), some (.inr (.inr 138)), some (.inl m), some (.inl j)]) (st' := [.inl j, .inr (.inr 138), .inl m]) rfl ?_
      refine jw_W_ia rfl rfl (by omega) (by omega) (by omega) ?_
      show jw_W (js_S n) _ md_267 12 [some (.inr (.inr 103)), some (.inr (.inr 138)), some (.inl m), some (.inl j)] [.inl (σ 138 j), .inl m] σ _
      refine jw_W_call (as := [.inl (σ 138 j)]) (rest := [.inl m]) rfl rfl rfl rfl (Nat.le_of_ble_eq_true rfl) (.inl rfl) (jx_sizeOf hro.1.2.1 hro.1.2.2) (by omega) ?_ rfl
      rintro r1 σz ⟨rfl, hs⟩
      rw [hs, hro.2.2]
      show jw_W (js_S n) _ md_267 13 [some (.inr (.inr 103)), some (.inr (.inr 138)), some (.inl m), some (.inl j)] [.inl (jx_cn (fun c => jm_nx σ 138 j c) (σ 103 56).toNat), .inl m] σ _
      refine jw_W_n 4 (i' := 4) (ls' := [some (.inr (.inr 103)), some (.inr (.inr 138)), some (.inl (m + (jx_cn (fun c => jm_nx σ 138 j c) (σ 103 56).toNat))), some (.inl (j + 1))]) (st' := []) rfl ?_
      exact ih (by omega) (by rw [jx_sm_s j0, H])
theorem jm_edges2 {n : Nat} {σ : jw_H} {C : List (ge_R × Int)} (hKN : jm_KN σ C) : jw_T (js_S n) 2 267 [.inr (.inr 103), .inr (.inr 138)] σ (fun r σ' => r = some (.inl (jm_eds σ 138)) ∧ σ' = σ) := by
  refine jw_T_of (D := 1) (M := mm_267) rfl (Nat.le_of_ble_eq_true rfl) (ls0 := [some (.inr (.inr 103)), some (.inr (.inr 138)), none, none]) rfl ?_ (by rintro _ _ ⟨rfl, -⟩; rfl)
  have hcb := (jm_kw_cbd hKN.1).2 σ (jm_fk_rf σ)
  have hcn := hcb.1
  have hPm := hKN.1.1
  refine jw_W_n 4 (i' := 4) (ls' := [some (.inr (.inr 103)), some (.inr (.inr 138)), some (.inl 0), some (.inl 0)]) (st' := []) rfl ?_
  exact jm_edges2_loop hKN (σ 103 56).toNat (j := 0) (m := 0) (by omega) (by omega) rfl
def jx_mx (σ : jw_H) (j m : Int) : Prop := (0 ≤ m ∧ m ≤ 21) ∧ (∀ c, 0 ≤ c → c < j → σ 139 c + 1 ≤ m) ∧ (m = 0 ∨ ∃ c, 0 ≤ c ∧ c < j ∧ m = σ 139 c + 1)
theorem jx_mx_s {σ : jw_H} {j m : Int} (h : jx_mx σ j m) (j0 : 0 ≤ j) (hb : 0 ≤ σ 139 j ∧ σ 139 j ≤ 20) : jx_mx σ (j + 1) (if m < σ 139 j + 1 then σ 139 j + 1 else m) := by
  obtain ⟨h0, h1, h2⟩ := h
  refine ⟨by split <;> omega, fun c c0 c1 => ?_, ?_⟩
  · by_cases e : c = j
    · rw [e]
      split <;> omega
    · have := h1 c c0 (by omega)
      split <;> omega
  · split
    · exact .inr ⟨j, j0, by omega, rfl⟩
    · rcases h2 with h2 | ⟨c, c0, c1, h2⟩
      · exact .inl h2
      · exact .inr ⟨c, c0, by omega, h2⟩
theorem jx_mx_end {σ : jw_H} {C : List (ge_R × Int)} (hK : jm_KN σ C) {m : Int} (h : jx_mx σ (σ 103 56) m) : m = σ 103 59 := by
  obtain ⟨h0, h1, h2⟩ := h
  have hcb := (jm_kw_cbd hK.1).2 σ (jm_fk_rf σ)
  obtain ⟨-, -, -, -, -, -, t, t1, t2, t3, t4⟩ := hK
  have up : m ≤ t := by
    rcases h2 with h2 | ⟨c, c0, c1, h2⟩
    · omega
    · obtain ⟨s, s1, s2, -⟩ := t4 c c0 c1
      omega
  by_cases ht : t = 0
  · omega
  · obtain ⟨a, ha⟩ := t2 (t - 1) (by omega)
    obtain ⟨b, b1, b2⟩ := jm_lv_go hcb ha
    have hb := jm_lv_in b1
    obtain ⟨s, s1, s2, s3, s4⟩ := t4 b hb.1 hb.2
    have e := jm_lv_uq s3 s4 b1 b2
    have := h1 b hb.1 hb.2
    omega
theorem jx_lay_bd {σ : jw_H} {C : List (ge_R × Int)} (hK : jm_KN σ C) {c : Int} (c0 : 0 ≤ c) (c1 : c < σ 103 56) : 0 ≤ σ 139 c ∧ σ 139 c ≤ 20 := by
  have hcb := (jm_kw_cbd hK.1).2 σ (jm_fk_rf σ)
  have hcn := hcb.1
  obtain ⟨-, -, -, -, -, -, t, t1, t2, t3, t4⟩ := hK
  obtain ⟨s, s1, s2, s3, -⟩ := t4 c c0 c1
  have : ¬ (σ 103 56).toNat ≤ s := fun h => jm_lv_n hcb c (jm_lv_dn h s3)
  omega
theorem jx_layers_loop {n : Nat} {σ : jw_H} {o : Nat} {C : List (ge_R × Int)} (hJ : jx_KJ n o C σ)  : ∀ (f : Nat) {j m : Int}, 0 ≤ j → j + f = σ 103 56 → jx_mx σ j m → jw_W (js_S n) 0 md_25 4 [some (.inr (.inr 57)), some (.inl m), some (.inl j)] [] σ (fun r σ' => r = some (.inl (σ 103 59)) ∧ σ' = σ)
  | f, j, m, j0, hk, H => by
    have ih : ∀ {m' : Int}, j < σ 103 56 → jx_mx σ (j + 1) m' → jw_W (js_S n) 0 md_25 4 [some (.inr (.inr 57)), some (.inl m'), some (.inl (j + 1))] [] σ (fun r σ' => r = some (.inl (σ 103 59)) ∧ σ' = σ) := by
      intro m' h1 h2
      match f, hk with
      | 0, hk => omega
      | f + 1, hk => exact jx_layers_loop hJ f (by omega) (by omega) h2
    have hI := hJ.1
    have hKN := hJ.2.1
    have hjd := hJ.2.2.2
    obtain ⟨hto, hfo, hp, hP, e0, e1, e2, hPm, hcb, c0, p0, -⟩ := jx_I0_x hI
    have ho := hp.1
    have hq := hP.1
    have hw := hP.2.1
    have hq2 := hP.2.2.1
    have hcn := hcb.1
    refine jw_W_n 2 (i' := 6) (ls' := [some (.inr (.inr 57)), some (.inl m), some (.inl j)]) (st' := [.inr (.inr 57), .inl j]) rfl ?_
    refine jw_W_gf rfl rfl rfl ?_
    show jw_W (js_S n) _ md_25 7 [some (.inr (.inr 57)), some (.inl m), some (.inl j)] [.inl (σ 57 0), .inl j] σ _
    refine jw_W_ic rfl (by unfold jw_rg; omega) (by unfold jw_rg; omega) (fun hc1 => ?_) (fun hc1 => ?_)
    · have hc1 : j ≥ (σ 57 0) := hc1
      refine jw_W_n 1 (i' := 20) (ls' := [some (.inr (.inr 57)), some (.inl m), some (.inl j)]) (st' := [.inl m]) rfl ?_
      refine jw_W_ir rfl ?_
      have hkl : j = σ 103 56 := by omega
      subst hkl
      exact ⟨by rw [jx_mx_end hKN H], rfl⟩
    · have hc1 : ¬ (j ≥ (σ 57 0)) := hc1
      have hly := (hjd j j0 (by omega)).2.1
      have hlb := jx_lay_bd hKN j0 (show j < σ 103 56 by omega)
      have hm21 := H.1
      refine jw_W_n 2 (i' := 10) (ls' := [some (.inr (.inr 57)), some (.inl m), some (.inl j)]) (st' := [.inr (.inr 57), .inl m]) rfl ?_
      refine jw_W_gf rfl rfl rfl ?_
      show jw_W (js_S n) _ md_25 11 [some (.inr (.inr 57)), some (.inl m), some (.inl j)] [.inr (.inr 64), .inl m] σ _
      refine jw_W_n 1 (i' := 12) (ls' := [some (.inr (.inr 57)), some (.inl m), some (.inl j)]) (st' := [.inl j, .inr (.inr 64), .inl m]) rfl ?_
      refine jw_W_ia rfl rfl (by omega) (by omega) (by omega) ?_
      show jw_W (js_S n) _ md_25 13 [some (.inr (.inr 57)), some (.inl m), some (.inl j)] [.inl (σ 64 j), .inl m] σ _
      refine jw_W_n 2 (i' := 15) (ls' := [some (.inr (.inr 57)), some (.inl m), some (.inl j)]) (st' := [.inl (σ 64 j + 1), .inl m]) rfl ?_
      refine jw_W_max rfl rfl (by unfold jw_rg; omega) (by unfold jw_rg; omega) (Nat.le_of_ble_eq_true rfl) ?_
      refine jw_W_n 3 (i' := 4) (ls' := [some (.inr (.inr 57)), some (.inl (if m < σ 64 j + 1 then σ 64 j + 1 else m)), some (.inl (j + 1))]) (st' := []) rfl ?_
      rw [hly]
      exact ih (by omega) (jx_mx_s H j0 hlb)
theorem jx_layers {n : Nat} {σ : jw_H} {o : Nat} {C : List (ge_R × Int)} (hJ : jx_KJ n o C σ)  : jw_T (js_S n) 1 25 [.inr (.inr 57)] σ (fun r σ' => r = some (.inl (σ 103 59)) ∧ σ' = σ) := by
  refine jw_T_of (D := 0) (M := mm_25) rfl (Nat.le_of_ble_eq_true rfl) (ls0 := [some (.inr (.inr 57)), none, none]) rfl ?_ (by rintro _ _ ⟨rfl, -⟩; rfl)
  have hI := hJ.1
  have hKN := hJ.2.1
  have hjd := hJ.2.2.2
  obtain ⟨hto, hfo, hp, hP, e0, e1, e2, hPm, hcb, c0, p0, -⟩ := jx_I0_x hI
  have ho := hp.1
  have hq := hP.1
  have hw := hP.2.1
  have hq2 := hP.2.2.1
  have hcn := hcb.1
  refine jw_W_n 4 (i' := 4) (ls' := [some (.inr (.inr 57)), some (.inl 0), some (.inl 0)]) (st' := []) rfl ?_
  exact jx_layers_loop hJ (σ 103 56).toNat (j := 0) (m := 0) (by omega) (by omega) ⟨by omega, fun c c0 c1 => by omega, .inl rfl⟩
/-- as much of each wish -/
def jm_al (σ : jw_H) (i j t : Int) : Prop := ∀ w, 0 ≤ w → w < t → ge_f (jm_W σ w) (jm_ct σ i) * σ 135 j = ge_f (jm_W σ w) (jm_ct σ j) * σ 135 i
theorem jm_al_s {σ : jw_H} {i j t : Int} (h : jm_al σ i j t) (hw : ge_f (jm_W σ t) (jm_ct σ i) * σ 135 j = ge_f (jm_W σ t) (jm_ct σ j) * σ 135 i) : jm_al σ i j (t + 1) := fun w w0 w1 => by
  by_cases e : w = t
  · rw [e]
    exact hw
  · exact h w w0 (by omega)
theorem jx_areAlike_loop {n : Nat} {σ : jw_H} {o : Nat} {C : List (ge_R × Int)} (hJ : jx_KJ n o C σ) {i j : Int} (i0 : 0 ≤ i) (i1 : i < σ 103 56) (j0 : 0 ≤ j) (j1 : j < σ 103 56) : ∀ (f : Nat) {t : Int}, 0 ≤ t → t + f = σ 103 4 → jm_al σ i j t → jw_W (js_S n) 3 md_27 2 [some (.inr (.inr 57)), some (.inl i), some (.inl j), some (.inl t)] [] σ (fun r σ' => (r = some (.inl 1) ∧ σ' = σ ∧ (jm_al σ i j (σ 103 4))) ∨ (r = some (.inl 0) ∧ σ' = σ ∧ ¬ (jm_al σ i j (σ 103 4))))
  | f, t, t0, hk, H => by
    have ih : t < σ 103 4 → jm_al σ i j (t + 1) → jw_W (js_S n) 3 md_27 2 [some (.inr (.inr 57)), some (.inl i), some (.inl j), some (.inl (t + 1))] [] σ (fun r σ' => (r = some (.inl 1) ∧ σ' = σ ∧ (jm_al σ i j (σ 103 4))) ∨ (r = some (.inl 0) ∧ σ' = σ ∧ ¬ (jm_al σ i j (σ 103 4)))) := by
      intro h1 h2
      match f, hk with
      | 0, hk => omega
      | f + 1, hk => exact jx_areAlike_loop hJ i0 i1 j0 j1 f (by omega) (by omega) h2
    have hI := hJ.1
    have hKN := hJ.2.1
    have hjd := hJ.2.2.2
    obtain ⟨hto, hfo, hp, hP, e0, e1, e2, hPm, hcb, c0, p0, -⟩ := jx_I0_x hI
    have ho := hp.1
    have hq := hP.1
    have hw := hP.2.1
    have hq2 := hP.2.2.1
    have hcn := hcb.1
    refine jw_W_n 2 (i' := 4) (ls' := [some (.inr (.inr 57)), some (.inl i), some (.inl j), some (.inl t)]) (st' := [.inr (.inr 57), .inl t]) rfl ?_
    refine jw_W_gf rfl rfl rfl ?_
    show jw_W (js_S n) _ md_27 5 [some (.inr (.inr 57)), some (.inl i), some (.inl j), some (.inl t)] [.inr (.inr ((σ 57 6).toNat)), .inl t] σ _
    rw [hfo]
    refine jw_W_gf rfl hp.2.1 rfl ?_
    show jw_W (js_S n) _ md_27 6 [some (.inr (.inr 57)), some (.inl i), some (.inl j), some (.inl t)] [.inl (σ o 1), .inl t] σ _
    refine jw_W_ic rfl (by unfold jw_rg; omega) (by unfold jw_rg; omega) (fun hc1 => ?_) (fun hc1 => ?_)
    · have hc1 : t ≥ (σ o 1) := hc1
      refine jw_W_n 1 (i' := 20) (ls' := [some (.inr (.inr 57)), some (.inl i), some (.inl j), some (.inl t)]) (st' := [.inl 1]) rfl ?_
      refine jw_W_ir rfl ?_
      have hkl : t = σ 103 4 := by omega
      subst hkl
      exact .inl ⟨rfl, rfl, H⟩
    · have hc1 : ¬ (t ≥ (σ o 1)) := hc1
      refine jw_W_n 4 (i' := 11) (ls' := [some (.inr (.inr 57)), some (.inl i), some (.inl j), some (.inl t)]) (st' := [.inl t, .inl j, .inl i, .inr (.inr 57)]) rfl ?_
      refine jw_W_call (as := [.inr (.inr 57), .inl i, .inl j, .inl t]) (rest := []) rfl rfl rfl rfl (Nat.le_of_ble_eq_true rfl) (.inr rfl) (jx_lead hI i0 i1 j0 j1 t0 (by omega)) (by omega) ?_ rfl
      rintro r1 σz ⟨rfl, hs⟩
      rw [hs]
      have q1 := jm_f_w hPm hcb (k := t) (i := i) (j := j) t0 (by omega) i0 i1 j0 j1
      have q2 := jm_f_w hPm hcb (k := t) (i := j) (j := i) t0 (by omega) j0 j1 i0 i1
      show jw_W (js_S n) _ md_27 12 [some (.inr (.inr 57)), some (.inl i), some (.inl j), some (.inl t)] [.inr (.inl (ge_f (jm_W σ t) (jm_ct σ i) * σ 135 j - ge_f (jm_W σ t) (jm_ct σ j) * σ 135 i))] σ _
      refine jw_W_n 1 (i' := 13) (ls' := [some (.inr (.inr 57)), some (.inl i), some (.inl j), some (.inl t)]) (st' := [.inr (.inl 0), .inr (.inl (ge_f (jm_W σ t) (jm_ct σ i) * σ 135 j - ge_f (jm_W σ t) (jm_ct σ j) * σ 135 i))]) rfl ?_
      refine jw_W_lc rfl rfl (by unfold jw_rgl; omega) (by unfold jw_rgl; omega) (fun hc2 => ?_) (fun hc2 => ?_)
      · have hc2 : (ge_f (jm_W σ t) (jm_ct σ i) * σ 135 j - ge_f (jm_W σ t) (jm_ct σ j) * σ 135 i) = 0 := hc2
        refine jw_W_n 2 (i' := 2) (ls' := [some (.inr (.inr 57)), some (.inl i), some (.inl j), some (.inl (t + 1))]) (st' := []) rfl ?_
        exact ih (by omega) (jm_al_s H (by omega))
      · have hc2 : ¬ ((ge_f (jm_W σ t) (jm_ct σ i) * σ 135 j - ge_f (jm_W σ t) (jm_ct σ j) * σ 135 i) = 0) := hc2
        refine jw_W_n 1 (i' := 16) (ls' := [some (.inr (.inr 57)), some (.inl i), some (.inl j), some (.inl t)]) (st' := [.inl 0]) rfl ?_
        refine jw_W_ir rfl ?_
        exact .inr ⟨rfl, rfl, fun hh => by have := hh t t0 (by omega); omega⟩
theorem jx_areAlike {n : Nat} {σ : jw_H} {o : Nat} {C : List (ge_R × Int)} (hJ : jx_KJ n o C σ) {i j : Int} (i0 : 0 ≤ i) (i1 : i < σ 103 56) (j0 : 0 ≤ j) (j1 : j < σ 103 56) : jw_T (js_S n) 4 27 [.inr (.inr 57), .inl i, .inl j] σ (fun r σ' => (r = some (.inl 1) ∧ σ' = σ ∧ (jm_al σ i j (σ 103 4))) ∨ (r = some (.inl 0) ∧ σ' = σ ∧ ¬ (jm_al σ i j (σ 103 4)))) := by
  refine jw_T_of (D := 3) (M := mm_27) rfl (Nat.le_of_ble_eq_true rfl) (ls0 := [some (.inr (.inr 57)), some (.inl i), some (.inl j), none]) rfl ?_ (by rintro _ _ (⟨rfl, -⟩ | ⟨rfl, -⟩) <;> rfl)
  have hI := hJ.1
  have hKN := hJ.2.1
  have hjd := hJ.2.2.2
  obtain ⟨hto, hfo, hp, hP, e0, e1, e2, hPm, hcb, c0, p0, -⟩ := jx_I0_x hI
  have ho := hp.1
  have hq := hP.1
  have hw := hP.2.1
  have hq2 := hP.2.2.1
  have hcn := hcb.1
  refine jw_W_n 2 (i' := 2) (ls' := [some (.inr (.inr 57)), some (.inl i), some (.inl j), some (.inl 0)]) (st' := []) rfl ?_
  exact jx_areAlike_loop hJ i0 i1 j0 j1 (σ 103 4).toNat (t := 0) (by omega) (by omega) (fun w w0 w1 => by omega)
theorem jm_areAlike_loop {n : Nat} {σ : jw_H} {C : List (ge_R × Int)} (hKN : jm_KN σ C) {i j : Int} (i0 : 0 ≤ i) (i1 : i < σ 103 56) (j0 : 0 ≤ j) (j1 : j < σ 103 56) : ∀ (f : Nat) {t : Int}, 0 ≤ t → t + f = σ 103 4 → jm_al σ i j t → jw_W (js_S n) 2 md_270 2 [some (.inr (.inr 103)), some (.inl i), some (.inl j), some (.inl t)] [] σ (fun r σ' => (r = some (.inl 1) ∧ σ' = σ ∧ (jm_al σ i j (σ 103 4))) ∨ (r = some (.inl 0) ∧ σ' = σ ∧ ¬ (jm_al σ i j (σ 103 4))))
  | f, t, t0, hk, H => by
    have ih : t < σ 103 4 → jm_al σ i j (t + 1) → jw_W (js_S n) 2 md_270 2 [some (.inr (.inr 103)), some (.inl i), some (.inl j), some (.inl (t + 1))] [] σ (fun r σ' => (r = some (.inl 1) ∧ σ' = σ ∧ (jm_al σ i j (σ 103 4))) ∨ (r = some (.inl 0) ∧ σ' = σ ∧ ¬ (jm_al σ i j (σ 103 4)))) := by
      intro h1 h2
      match f, hk with
      | 0, hk => omega
      | f + 1, hk => exact jm_areAlike_loop hKN i0 i1 j0 j1 f (by omega) (by omega) h2
    have hcb := (jm_kw_cbd hKN.1).2 σ (jm_fk_rf σ)
    have hcn := hcb.1
    have hPm := hKN.1.1
    have hww := hPm.2.1
    refine jw_W_n 2 (i' := 4) (ls' := [some (.inr (.inr 103)), some (.inl i), some (.inl j), some (.inl t)]) (st' := [.inr (.inr 103), .inl t]) rfl ?_
    refine jw_W_gf rfl rfl rfl ?_
    show jw_W (js_S n) _ md_270 5 [some (.inr (.inr 103)), some (.inl i), some (.inl j), some (.inl t)] [.inl (σ 103 4), .inl t] σ _
    refine jw_W_ic rfl (by unfold jw_rg; omega) (by unfold jw_rg; omega) (fun hc1 => ?_) (fun hc1 => ?_)
    · have hc1 : t ≥ (σ 103 4) := hc1
      refine jw_W_n 1 (i' := 17) (ls' := [some (.inr (.inr 103)), some (.inl i), some (.inl j), some (.inl t)]) (st' := [.inl 1]) rfl ?_
      refine jw_W_ir rfl ?_
      have hkl : t = σ 103 4 := by omega
      subst hkl
      exact .inl ⟨rfl, rfl, H⟩
    · have hc1 : ¬ (t ≥ (σ 103 4)) := hc1
      refine jw_W_n 4 (i' := 10) (ls' := [some (.inr (.inr 103)), some (.inl i), some (.inl j), some (.inl t)]) (st' := [.inl j, .inl i, .inl t, .inr (.inr 103)]) rfl ?_
      refine jw_W_call (as := [.inr (.inr 103), .inl t, .inl i, .inl j]) (rest := []) rfl rfl rfl rfl (Nat.le_of_ble_eq_true rfl) (.inr rfl) (jm_byWish hPm hcb t0 (by omega) i0 i1 j0 j1) (by omega) ?_ rfl
      rintro r1 σz (⟨rfl, hs, hby⟩ | ⟨rfl, hs, hby⟩ | ⟨rfl, hs, hby⟩)
      · rw [hs]
        show jw_W (js_S n) _ md_270 11 [some (.inr (.inr 103)), some (.inl i), some (.inl j), some (.inl t)] [.inl ((-1))] σ _
        refine jw_W_if rfl (by unfold jw_rg; omega) (fun hc2 => ?_) (fun hc2 => ?_)
        · exact absurd hc2 (show ¬ ((((-1 : Int))) = 0) by omega)
        · clear hc2
          refine jw_W_n 1 (i' := 13) (ls' := [some (.inr (.inr 103)), some (.inl i), some (.inl j), some (.inl t)]) (st' := [.inl 0]) rfl ?_
          refine jw_W_ir rfl ?_
          exact .inr ⟨rfl, rfl, fun hh => by have := hh t t0 (by omega); omega⟩
      · rw [hs]
        show jw_W (js_S n) _ md_270 11 [some (.inr (.inr 103)), some (.inl i), some (.inl j), some (.inl t)] [.inl 1] σ _
        refine jw_W_if rfl (by unfold jw_rg; omega) (fun hc3 => ?_) (fun hc3 => ?_)
        · exact absurd hc3 (show ¬ ((1 : Int) = 0) by omega)
        · clear hc3
          refine jw_W_n 1 (i' := 13) (ls' := [some (.inr (.inr 103)), some (.inl i), some (.inl j), some (.inl t)]) (st' := [.inl 0]) rfl ?_
          refine jw_W_ir rfl ?_
          exact .inr ⟨rfl, rfl, fun hh => by have := hh t t0 (by omega); omega⟩
      · rw [hs]
        show jw_W (js_S n) _ md_270 11 [some (.inr (.inr 103)), some (.inl i), some (.inl j), some (.inl t)] [.inl 0] σ _
        refine jw_W_if rfl (by unfold jw_rg; omega) (fun hc4 => ?_) (fun hc4 => ?_)
        · clear hc4
          refine jw_W_n 2 (i' := 2) (ls' := [some (.inr (.inr 103)), some (.inl i), some (.inl j), some (.inl (t + 1))]) (st' := []) rfl ?_
          exact ih (by omega) (jm_al_s H (by omega))
        · exact absurd hc4 (show ¬ ¬ ((0 : Int) = 0) by omega)
theorem jm_areAlike {n : Nat} {σ : jw_H} {C : List (ge_R × Int)} (hKN : jm_KN σ C) {i j : Int} (i0 : 0 ≤ i) (i1 : i < σ 103 56) (j0 : 0 ≤ j) (j1 : j < σ 103 56) : jw_T (js_S n) 3 270 [.inr (.inr 103), .inl i, .inl j] σ (fun r σ' => (r = some (.inl 1) ∧ σ' = σ ∧ (jm_al σ i j (σ 103 4))) ∨ (r = some (.inl 0) ∧ σ' = σ ∧ ¬ (jm_al σ i j (σ 103 4)))) := by
  refine jw_T_of (D := 2) (M := mm_270) rfl (Nat.le_of_ble_eq_true rfl) (ls0 := [some (.inr (.inr 103)), some (.inl i), some (.inl j), none]) rfl ?_ (by rintro _ _ (⟨rfl, -⟩ | ⟨rfl, -⟩) <;> rfl)
  have hcb := (jm_kw_cbd hKN.1).2 σ (jm_fk_rf σ)
  have hcn := hcb.1
  have hPm := hKN.1.1
  have hww := hPm.2.1
  refine jw_W_n 2 (i' := 2) (ls' := [some (.inr (.inr 103)), some (.inl i), some (.inl j), some (.inl 0)]) (st' := []) rfl ?_
  exact jm_areAlike_loop hKN i0 i1 j0 j1 (σ 103 4).toNat (t := 0) (by omega) (by omega) (fun w w0 w1 => by omega)

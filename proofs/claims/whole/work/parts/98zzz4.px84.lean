/-! ===== texts: here, isDigit, fail, expect (class and reference) ===== -/
def jk_to (n T : Nat) : Prop := (T = 34 ∨ T = 43) ∧ (js_S n)[T]? = some (.inl (8, [0, 0, 0, 2]))
theorem jk_to_34 (n : Nat) : jk_to n 34 := ⟨by omega, rfl⟩
theorem jk_to_43 (n : Nat) : jk_to n 43 := ⟨by omega, rfl⟩
/-- the byte at a place of a text of so many; none behind it -/
def jk_h (b : Int → Int) (n i : Int) : Int := if i < n then b i else -1
/-- a text of the class: its place, how many, the bytes -/
def jk_tx (σ : jw_H) (T : Nat) (b : Int → Int) : Prop := σ T 3 = 14 ∧ (0 ≤ σ T 0 ∧ σ T 0 ≤ 100000) ∧ (0 ≤ σ T 1 ∧ σ T 1 ≤ 260) ∧ ∀ j, 0 ≤ j → j < σ T 1 → σ 14 j = b j ∧ 0 ≤ b j ∧ b j ≤ 255
theorem jk_h_rg {b : Int → Int} {n i : Int} (i0 : 0 ≤ i) (h : ∀ j, 0 ≤ j → j < n → 0 ≤ b j ∧ b j ≤ 255) : -1 ≤ jk_h b n i ∧ jk_h b n i ≤ 255 := by
  unfold jk_h
  split
  · have := h i i0 (by assumption)
    omega
  · omega
def jk_dg (x : Int) : Prop := 48 ≤ x ∧ x ≤ 57
theorem jk_isDigit {n : Nat} {σ : jw_H} {T : Nat} (hp : jk_to n T) {x : Int} (hx : jw_rg x)  : jw_T (js_S n) 1 109 [.inr (.inr T), .inl x] σ (fun r σ' => (r = some (.inl 1) ∧ σ' = σ ∧ (jk_dg x)) ∨ (r = some (.inl 0) ∧ σ' = σ ∧ ¬ (jk_dg x))) := by
  refine jw_T_of (D := 0) (M := mm_109) rfl (Nat.le_of_ble_eq_true rfl) (ls0 := [some (.inr (.inr T)), some (.inl x)]) rfl ?_ (by rintro _ _ (⟨rfl, -⟩ | ⟨rfl, -⟩) <;> rfl)
  have ho := hp.1
  have rx := hx
  unfold jw_rg at rx
  refine jw_W_n 2 (i' := 2) (ls' := [some (.inr (.inr T)), some (.inl x)]) (st' := [.inl 48, .inl x]) rfl ?_
  refine jw_W_ic rfl (by unfold jw_rg; omega) (by unfold jw_rg; omega) (fun hc1 => ?_) (fun hc1 => ?_)
  · have hc1 : x < 48 := hc1
    refine jw_W_n 1 (i' := 9) (ls' := [some (.inr (.inr T)), some (.inl x)]) (st' := [.inl 0]) rfl ?_
    refine jw_W_ir rfl ?_
    exact .inr ⟨rfl, rfl, by unfold jk_dg; omega⟩
  · have hc1 : ¬ (x < 48) := hc1
    refine jw_W_n 2 (i' := 5) (ls' := [some (.inr (.inr T)), some (.inl x)]) (st' := [.inl 57, .inl x]) rfl ?_
    refine jw_W_ic rfl (by unfold jw_rg; omega) (by unfold jw_rg; omega) (fun hc2 => ?_) (fun hc2 => ?_)
    · have hc2 : x > 57 := hc2
      refine jw_W_n 1 (i' := 9) (ls' := [some (.inr (.inr T)), some (.inl x)]) (st' := [.inl 0]) rfl ?_
      refine jw_W_ir rfl ?_
      exact .inr ⟨rfl, rfl, by unfold jk_dg; omega⟩
    · have hc2 : ¬ (x > 57) := hc2
      refine jw_W_n 2 (i' := 9) (ls' := [some (.inr (.inr T)), some (.inl x)]) (st' := [.inl 1]) rfl ?_
      refine jw_W_ir rfl ?_
      exact .inl ⟨rfl, rfl, by unfold jk_dg; omega⟩
theorem jk_here {n : Nat} {σ : jw_H} {T : Nat} (hp : jk_to n T) {b : Int → Int} (ht : jk_tx σ T b)  : jw_T (js_S n) 1 107 [.inr (.inr T)] σ (fun r σ' => r = some (.inl (jk_h b (σ T 1) (σ T 0))) ∧ σ' = σ) := by
  refine jw_T_of (D := 0) (M := mm_107) rfl (Nat.le_of_ble_eq_true rfl) (ls0 := [some (.inr (.inr T))]) rfl ?_ (by rintro _ _ ⟨rfl, -⟩; rfl)
  have ho := hp.1
  obtain ⟨h3, hq0, hq1, hb⟩ := ht
  have h14 : (σ T 3).toNat = 14 := by rw [h3]; rfl
  refine jw_W_n 1 (i' := 1) (ls' := [some (.inr (.inr T))]) (st' := [.inr (.inr T)]) rfl ?_
  refine jw_W_gf rfl hp.2 rfl ?_
  show jw_W (js_S n) _ md_107 2 [some (.inr (.inr T))] [.inl (σ T 0)] σ _
  refine jw_W_if rfl (by unfold jw_rg; omega) (fun hc1 => ?_) (fun hc1 => ?_)
  · have hc1 : (σ T 0) < 0 := hc1
    refine jw_W_n 1 (i' := 15) (ls' := [some (.inr (.inr T))]) (st' := [.inl ((-1))]) rfl ?_
    refine jw_W_ir rfl ?_
    exact ⟨by unfold jk_h; rw [if_neg (by omega)], rfl⟩
  · have hc1 : ¬ ((σ T 0) < 0) := hc1
    refine jw_W_n 1 (i' := 4) (ls' := [some (.inr (.inr T))]) (st' := [.inr (.inr T)]) rfl ?_
    refine jw_W_gf rfl hp.2 rfl ?_
    show jw_W (js_S n) _ md_107 5 [some (.inr (.inr T))] [.inl (σ T 0)] σ _
    refine jw_W_n 1 (i' := 6) (ls' := [some (.inr (.inr T))]) (st' := [.inr (.inr T), .inl (σ T 0)]) rfl ?_
    refine jw_W_gf rfl hp.2 rfl ?_
    show jw_W (js_S n) _ md_107 7 [some (.inr (.inr T))] [.inl (σ T 1), .inl (σ T 0)] σ _
    refine jw_W_ic rfl (by unfold jw_rg; omega) (by unfold jw_rg; omega) (fun hc2 => ?_) (fun hc2 => ?_)
    · have hc2 : (σ T 0) ≥ (σ T 1) := hc2
      refine jw_W_n 1 (i' := 15) (ls' := [some (.inr (.inr T))]) (st' := [.inl ((-1))]) rfl ?_
      refine jw_W_ir rfl ?_
      exact ⟨by unfold jk_h; rw [if_neg (by omega)], rfl⟩
    · have hc2 : ¬ ((σ T 0) ≥ (σ T 1)) := hc2
      refine jw_W_n 1 (i' := 9) (ls' := [some (.inr (.inr T))]) (st' := [.inr (.inr T)]) rfl ?_
      refine jw_W_gf rfl hp.2 rfl ?_
      show jw_W (js_S n) _ md_107 10 [some (.inr (.inr T))] [.inr (.inr ((σ T 3).toNat))] σ _
      rw [h14]
      refine jw_W_n 1 (i' := 11) (ls' := [some (.inr (.inr T))]) (st' := [.inr (.inr T), .inr (.inr 14)]) rfl ?_
      refine jw_W_gf rfl hp.2 rfl ?_
      show jw_W (js_S n) _ md_107 12 [some (.inr (.inr T))] [.inl (σ T 0), .inr (.inr 14)] σ _
      refine jw_W_ia rfl rfl (by omega) (by omega) (by omega) ?_
      show jw_W (js_S n) _ md_107 13 [some (.inr (.inr T))] [.inl (σ 14 (σ T 0))] σ _
      refine jw_W_n 1 (i' := 15) (ls' := [some (.inr (.inr T))]) (st' := [.inl (σ 14 (σ T 0))]) rfl ?_
      refine jw_W_ir rfl ?_
      exact ⟨by unfold jk_h; rw [if_pos (by omega), (hb _ (by omega) (by omega)).1], rfl⟩
theorem jk_fail {n : Nat} {σ : jw_H} {T : Nat} (hp : jk_to n T) {c i : Int} (hc : 0 ≤ c ∧ c ≤ 100) (hi : 0 ≤ i ∧ i ≤ 100000) (h2 : jw_rg (σ T 2))  : jw_T (js_S n) 1 106 [.inr (.inr T), .inl c, .inl i] σ (fun r σ' => r = none ∧ σ' = if σ T 2 = 0 then jw_up σ T 2 (-1000 * c - i) else σ) := by
  refine jw_T_of (D := 0) (M := mm_106) rfl (Nat.le_of_ble_eq_true rfl) (ls0 := [some (.inr (.inr T)), some (.inl c), some (.inl i)]) rfl ?_ (by rintro _ _ ⟨rfl, -⟩; rfl)
  have ho := hp.1
  unfold jw_rg at h2
  refine jw_W_n 1 (i' := 1) (ls' := [some (.inr (.inr T)), some (.inl c), some (.inl i)]) (st' := [.inr (.inr T)]) rfl ?_
  refine jw_W_gf rfl hp.2 rfl ?_
  show jw_W (js_S n) _ md_106 2 [some (.inr (.inr T)), some (.inl c), some (.inl i)] [.inl (σ T 2)] σ _
  refine jw_W_if rfl (by unfold jw_rg; omega) (fun hc1 => ?_) (fun hc1 => ?_)
  · have hc1 : (σ T 2) ≠ 0 := hc1
    refine jw_W_re rfl ?_
    exact ⟨rfl, (if_neg (by omega)).symm⟩
  · have hc1 : (σ T 2) = 0 := Classical.not_not.mp hc1
    refine jw_W_n 6 (i' := 9) (ls' := [some (.inr (.inr T)), some (.inl c), some (.inl i)]) (st' := [.inl (((-1000) * c) - i), .inr (.inr T)]) rfl ?_
    refine jw_W_pf (a := ((-1000) * c) - i) rfl (by omega) hp.2 rfl rfl rfl rfl ?_
    refine jw_W_re rfl ?_
    exact ⟨rfl, (if_pos (by omega)).symm⟩
theorem jk_expect {n : Nat} {σ : jw_H} {T : Nat} (hp : jk_to n T) {b : Int → Int} (ht : jk_tx σ T b) {x : Int} (hx : jw_rg x) (h2 : jw_rg (σ T 2))  : jw_T (js_S n) 2 108 [.inr (.inr T), .inl x] σ (fun r σ' => r = none ∧ ((jk_h b (σ T 1) (σ T 0) = x ∧ σ' = jw_up σ T 0 (σ T 0 + 1)) ∨ (jk_h b (σ T 1) (σ T 0) ≠ x ∧ σ' = if σ T 2 = 0 then jw_up σ T 2 (-1000 * 1 - σ T 0) else σ))) := by
  refine jw_T_of (D := 1) (M := mm_108) rfl (Nat.le_of_ble_eq_true rfl) (ls0 := [some (.inr (.inr T)), some (.inl x)]) rfl ?_ (by rintro _ _ ⟨rfl, -⟩; rfl)
  have ho := hp.1
  have hhr := jk_h_rg (b := b) (n := σ T 1) (i := σ T 0) ht.2.1.1 (fun j j0 j1 => (ht.2.2.2 j j0 j1).2)
  have hq0 := ht.2.1
  have rx := hx
  unfold jw_rg at rx
  refine jw_W_n 1 (i' := 1) (ls' := [some (.inr (.inr T)), some (.inl x)]) (st' := [.inr (.inr T)]) rfl ?_
  refine jw_W_call (as := [.inr (.inr T)]) (rest := []) rfl rfl rfl rfl (Nat.le_of_ble_eq_true rfl) (.inr (jx_rc hp.2)) (jk_here hp ht) (by omega) ?_ rfl
  rintro r1 σz ⟨rfl, hs⟩
  rw [hs]
  show jw_W (js_S n) _ md_108 2 [some (.inr (.inr T)), some (.inl x)] [.inl (jk_h b (σ T 1) (σ T 0))] σ _
  refine jw_W_n 1 (i' := 3) (ls' := [some (.inr (.inr T)), some (.inl x)]) (st' := [.inl x, .inl (jk_h b (σ T 1) (σ T 0))]) rfl ?_
  refine jw_W_ic rfl (by unfold jw_rg; omega) (by unfold jw_rg; omega) (fun hc1 => ?_) (fun hc1 => ?_)
  · have hc1 : (jk_h b (σ T 1) (σ T 0)) ≠ x := hc1
    refine jw_W_n 3 (i' := 14) (ls' := [some (.inr (.inr T)), some (.inl x)]) (st' := [.inr (.inr T), .inl 1, .inr (.inr T)]) rfl ?_
    refine jw_W_gf rfl hp.2 rfl ?_
    show jw_W (js_S n) _ md_108 15 [some (.inr (.inr T)), some (.inl x)] [.inl (σ T 0), .inl 1, .inr (.inr T)] σ _
    refine jw_W_call (as := [.inr (.inr T), .inl 1, .inl (σ T 0)]) (rest := []) rfl rfl rfl rfl (Nat.le_of_ble_eq_true rfl) (.inr (jx_rc hp.2)) (jk_fail hp (by omega) (by omega) h2) (by omega) ?_ rfl
    rintro r1 σ1 ⟨rfl, hs⟩
    show jw_W (js_S n) _ md_108 16 [some (.inr (.inr T)), some (.inl x)] [] σ1 _
    refine jw_W_re rfl ?_
    exact ⟨rfl, .inr ⟨by omega, hs⟩⟩
  · have hc1 : (jk_h b (σ T 1) (σ T 0)) = x := Classical.not_not.mp hc1
    refine jw_W_n 2 (i' := 6) (ls' := [some (.inr (.inr T)), some (.inl x)]) (st' := [.inr (.inr T), .inr (.inr T)]) rfl ?_
    refine jw_W_gf rfl hp.2 rfl ?_
    show jw_W (js_S n) _ md_108 7 [some (.inr (.inr T)), some (.inl x)] [.inl (σ T 0), .inr (.inr T)] σ _
    refine jw_W_n 2 (i' := 9) (ls' := [some (.inr (.inr T)), some (.inl x)]) (st' := [.inl (σ T 0 + 1), .inr (.inr T)]) rfl ?_
    refine jw_W_pf (a := σ T 0 + 1) rfl (by omega) hp.2 rfl rfl rfl rfl ?_
    refine jw_W_n 1 (i' := 16) (ls' := [some (.inr (.inr T)), some (.inl x)]) (st' := []) rfl ?_
    refine jw_W_re rfl ?_
    exact ⟨rfl, .inl ⟨by omega, rfl⟩⟩
theorem jk_refuse {n : Nat} {σ : jw_H} {T : Nat} (hp : jk_to n T) {b : Int → Int} (ht : jk_tx σ T b) (h2 : jw_rg (σ T 2))  : jw_T (js_S n) 2 111 [.inr (.inr T)] σ (fun r σ' => r = none ∧ ((¬ jk_dg (jk_h b (σ T 1) (σ T 0)) ∧ σ' = σ) ∨ (jk_dg (jk_h b (σ T 1) (σ T 0)) ∧ σ' = if σ T 2 = 0 then jw_up σ T 2 (-1000 * 2 - σ T 0) else σ))) := by
  refine jw_T_of (D := 1) (M := mm_111) rfl (Nat.le_of_ble_eq_true rfl) (ls0 := [some (.inr (.inr T))]) rfl ?_ (by rintro _ _ ⟨rfl, -⟩; rfl)
  have ho := hp.1
  have hhr := jk_h_rg (b := b) (n := σ T 1) (i := σ T 0) ht.2.1.1 (fun j j0 j1 => (ht.2.2.2 j j0 j1).2)
  have hq0 := ht.2.1
  refine jw_W_n 2 (i' := 2) (ls' := [some (.inr (.inr T))]) (st' := [.inr (.inr T), .inr (.inr T)]) rfl ?_
  refine jw_W_call (as := [.inr (.inr T)]) (rest := [.inr (.inr T)]) rfl rfl rfl rfl (Nat.le_of_ble_eq_true rfl) (.inr (jx_rc hp.2)) (jk_here hp ht) (by omega) ?_ rfl
  rintro r1 σz ⟨rfl, hs⟩
  rw [hs]
  show jw_W (js_S n) _ md_111 3 [some (.inr (.inr T))] [.inl (jk_h b (σ T 1) (σ T 0)), .inr (.inr T)] σ _
  refine jw_W_call (as := [.inr (.inr T), .inl (jk_h b (σ T 1) (σ T 0))]) (rest := []) rfl rfl rfl rfl (Nat.le_of_ble_eq_true rfl) (.inr (jx_rc hp.2)) (jk_isDigit hp (by unfold jw_rg; omega)) (by omega) ?_ rfl
  rintro r1 σz (⟨rfl, hs, q1⟩ | ⟨rfl, hs, q1⟩)
  · rw [hs]
    show jw_W (js_S n) _ md_111 4 [some (.inr (.inr T))] [.inl 1] σ _
    refine jw_W_if rfl (by unfold jw_rg; omega) (fun hc1 => ?_) (fun hc1 => ?_)
    · exact absurd hc1 (show ¬ ((1 : Int) = 0) by omega)
    · clear hc1
      refine jw_W_n 3 (i' := 8) (ls' := [some (.inr (.inr T))]) (st' := [.inr (.inr T), .inl 2, .inr (.inr T)]) rfl ?_
      refine jw_W_gf rfl hp.2 rfl ?_
      show jw_W (js_S n) _ md_111 9 [some (.inr (.inr T))] [.inl (σ T 0), .inl 2, .inr (.inr T)] σ _
      refine jw_W_call (as := [.inr (.inr T), .inl 2, .inl (σ T 0)]) (rest := []) rfl rfl rfl rfl (Nat.le_of_ble_eq_true rfl) (.inr (jx_rc hp.2)) (jk_fail hp (by omega) (by omega) h2) (by omega) ?_ rfl
      rintro r1 σ1 ⟨rfl, hs⟩
      show jw_W (js_S n) _ md_111 10 [some (.inr (.inr T))] [] σ1 _
      refine jw_W_re rfl ?_
      exact ⟨rfl, .inr ⟨by first | assumption | omega, hs⟩⟩
  · rw [hs]
    show jw_W (js_S n) _ md_111 4 [some (.inr (.inr T))] [.inl 0] σ _
    refine jw_W_if rfl (by unfold jw_rg; omega) (fun hc2 => ?_) (fun hc2 => ?_)
    · clear hc2
      refine jw_W_re rfl ?_
      exact ⟨rfl, .inl ⟨by first | assumption | omega, rfl⟩⟩
    · exact absurd hc2 (show ¬ ¬ ((0 : Int) = 0) by omega)
/-- a text of the reference -/
def jk_tr (σ : jw_H) (b : Int → Int) : Prop := (0 ≤ σ 103 8 ∧ σ 103 8 ≤ 100000) ∧ (0 ≤ σ 103 9 ∧ σ 103 9 ≤ 260) ∧ ∀ j, 0 ≤ j → j < σ 103 9 → jw_and (σ 107 j) 255 = b j ∧ (-128 ≤ σ 107 j ∧ σ 107 j ≤ 127) ∧ 0 ≤ b j ∧ b j ≤ 255
theorem jk_hereR {n : Nat} {σ : jw_H} {b : Int → Int} (ht : jk_tr σ b)  : jw_T (js_S n) 1 186 [.inr (.inr 103)] σ (fun r σ' => r = some (.inl (jk_h b (σ 103 9) (σ 103 8))) ∧ σ' = σ) := by
  refine jw_T_of (D := 0) (M := mm_186) rfl (Nat.le_of_ble_eq_true rfl) (ls0 := [some (.inr (.inr 103))]) rfl ?_ (by rintro _ _ ⟨rfl, -⟩; rfl)
  obtain ⟨hq0, hq1, hb⟩ := ht
  refine jw_W_n 1 (i' := 1) (ls' := [some (.inr (.inr 103))]) (st' := [.inr (.inr 103)]) rfl ?_
  refine jw_W_gf rfl rfl rfl ?_
  show jw_W (js_S n) _ md_186 2 [some (.inr (.inr 103))] [.inl (σ 103 8)] σ _
  refine jw_W_n 1 (i' := 3) (ls' := [some (.inr (.inr 103))]) (st' := [.inr (.inr 103), .inl (σ 103 8)]) rfl ?_
  refine jw_W_gf rfl rfl rfl ?_
  show jw_W (js_S n) _ md_186 4 [some (.inr (.inr 103))] [.inl (σ 103 9), .inl (σ 103 8)] σ _
  refine jw_W_ic rfl (by unfold jw_rg; omega) (by unfold jw_rg; omega) (fun hc1 => ?_) (fun hc1 => ?_)
  · have hc1 : (σ 103 8) ≥ (σ 103 9) := hc1
    refine jw_W_n 1 (i' := 14) (ls' := [some (.inr (.inr 103))]) (st' := [.inl ((-1))]) rfl ?_
    refine jw_W_ir rfl ?_
    exact ⟨by unfold jk_h; rw [if_neg (by omega)], rfl⟩
  · have hc1 : ¬ ((σ 103 8) ≥ (σ 103 9)) := hc1
    refine jw_W_n 1 (i' := 6) (ls' := [some (.inr (.inr 103))]) (st' := [.inr (.inr 103)]) rfl ?_
    refine jw_W_gf rfl rfl rfl ?_
    show jw_W (js_S n) _ md_186 7 [some (.inr (.inr 103))] [.inr (.inr 107)] σ _
    refine jw_W_n 1 (i' := 8) (ls' := [some (.inr (.inr 103))]) (st' := [.inr (.inr 103), .inr (.inr 107)]) rfl ?_
    refine jw_W_gf rfl rfl rfl ?_
    show jw_W (js_S n) _ md_186 9 [some (.inr (.inr 103))] [.inl (σ 103 8), .inr (.inr 107)] σ _
    refine jw_W_ba rfl rfl (by decide) (by omega) (by omega) (by omega) ?_
    show jw_W (js_S n) _ md_186 10 [some (.inr (.inr 103))] [.inl (σ 107 (σ 103 8))] σ _
    refine jw_W_n 3 (i' := 14) (ls' := [some (.inr (.inr 103))]) (st' := [.inl (jw_and (σ 107 (σ 103 8)) 255)]) rfl ?_
    refine jw_W_ir rfl ?_
    exact ⟨by unfold jk_h; rw [if_pos (by omega)]; first | exact congrArg (fun v => some (Sum.inl v)) (hb _ (by omega) (by omega)).1 | rw [(hb _ (by omega) (by omega)).1], rfl⟩
theorem jk_wrongAt {n : Nat} {σ : jw_H} {c i : Int} (hc : 0 ≤ c ∧ c ≤ 100) (hi : 0 ≤ i ∧ i ≤ 100000)  : jw_T (js_S n) 1 188 [.inr (.inr 103), .inl c, .inl i] σ (fun r σ' => r = some (.inl 0) ∧ σ' = jw_up σ 103 10 (-1000 * c - i)) := by
  refine jw_T_of (D := 0) (M := mm_188) rfl (Nat.le_of_ble_eq_true rfl) (ls0 := [some (.inr (.inr 103)), some (.inl c), some (.inl i)]) rfl ?_ (by rintro _ _ ⟨rfl, -⟩; rfl)
  refine jw_W_n 6 (i' := 6) (ls' := [some (.inr (.inr 103)), some (.inl c), some (.inl i)]) (st' := [.inl (((-1000) * c) - i), .inr (.inr 103)]) rfl ?_
  refine jw_W_pf (a := ((-1000) * c) - i) rfl (by omega) rfl rfl rfl rfl rfl ?_
  refine jw_W_n 1 (i' := 8) (ls' := [some (.inr (.inr 103)), some (.inl c), some (.inl i)]) (st' := [.inl 0]) rfl ?_
  refine jw_W_ir rfl ?_
  exact ⟨rfl, rfl⟩
theorem jk_isDigitR {n : Nat} {σ : jw_H} {b : Int → Int} (ht : jk_tr σ b)  : jw_T (js_S n) 2 187 [.inr (.inr 103)] σ (fun r σ' => (r = some (.inl 1) ∧ σ' = σ ∧ (jk_dg (jk_h b (σ 103 9) (σ 103 8)))) ∨ (r = some (.inl 0) ∧ σ' = σ ∧ ¬ (jk_dg (jk_h b (σ 103 9) (σ 103 8))))) := by
  refine jw_T_of (D := 1) (M := mm_187) rfl (Nat.le_of_ble_eq_true rfl) (ls0 := [some (.inr (.inr 103))]) rfl ?_ (by rintro _ _ (⟨rfl, -⟩ | ⟨rfl, -⟩) <;> rfl)
  have hhr := jk_h_rg (b := b) (n := σ 103 9) (i := σ 103 8) ht.1.1 (fun j j0 j1 => (ht.2.2 j j0 j1).2.2)
  have hq0 := ht.1
  refine jw_W_n 1 (i' := 1) (ls' := [some (.inr (.inr 103))]) (st' := [.inr (.inr 103)]) rfl ?_
  refine jw_W_call (as := [.inr (.inr 103)]) (rest := []) rfl rfl rfl rfl (Nat.le_of_ble_eq_true rfl) (.inr rfl) (jk_hereR ht) (by omega) ?_ rfl
  rintro r1 σz ⟨rfl, hs⟩
  rw [hs]
  show jw_W (js_S n) _ md_187 2 [some (.inr (.inr 103))] [.inl (jk_h b (σ 103 9) (σ 103 8))] σ _
  refine jw_W_n 1 (i' := 3) (ls' := [some (.inr (.inr 103))]) (st' := [.inl 48, .inl (jk_h b (σ 103 9) (σ 103 8))]) rfl ?_
  refine jw_W_ic rfl (by unfold jw_rg; omega) (by unfold jw_rg; omega) (fun hc1 => ?_) (fun hc1 => ?_)
  · have hc1 : (jk_h b (σ 103 9) (σ 103 8)) < 48 := hc1
    refine jw_W_n 1 (i' := 11) (ls' := [some (.inr (.inr 103))]) (st' := [.inl 0]) rfl ?_
    refine jw_W_ir rfl ?_
    exact .inr ⟨rfl, rfl, by unfold jk_dg; omega⟩
  · have hc1 : ¬ ((jk_h b (σ 103 9) (σ 103 8)) < 48) := hc1
    refine jw_W_n 1 (i' := 5) (ls' := [some (.inr (.inr 103))]) (st' := [.inr (.inr 103)]) rfl ?_
    refine jw_W_call (as := [.inr (.inr 103)]) (rest := []) rfl rfl rfl rfl (Nat.le_of_ble_eq_true rfl) (.inr rfl) (jk_hereR ht) (by omega) ?_ rfl
    rintro r1 σz ⟨rfl, hs⟩
    rw [hs]
    show jw_W (js_S n) _ md_187 6 [some (.inr (.inr 103))] [.inl (jk_h b (σ 103 9) (σ 103 8))] σ _
    refine jw_W_n 1 (i' := 7) (ls' := [some (.inr (.inr 103))]) (st' := [.inl 57, .inl (jk_h b (σ 103 9) (σ 103 8))]) rfl ?_
    refine jw_W_ic rfl (by unfold jw_rg; omega) (by unfold jw_rg; omega) (fun hc2 => ?_) (fun hc2 => ?_)
    · have hc2 : (jk_h b (σ 103 9) (σ 103 8)) > 57 := hc2
      refine jw_W_n 1 (i' := 11) (ls' := [some (.inr (.inr 103))]) (st' := [.inl 0]) rfl ?_
      refine jw_W_ir rfl ?_
      exact .inr ⟨rfl, rfl, by unfold jk_dg; omega⟩
    · have hc2 : ¬ ((jk_h b (σ 103 9) (σ 103 8)) > 57) := hc2
      refine jw_W_n 2 (i' := 11) (ls' := [some (.inr (.inr 103))]) (st' := [.inl 1]) rfl ?_
      refine jw_W_ir rfl ?_
      exact .inl ⟨rfl, rfl, by unfold jk_dg; omega⟩
theorem jk_takes {n : Nat} {σ : jw_H} {b : Int → Int} (ht : jk_tr σ b) {x : Int} (hx : jw_rg x)  : jw_T (js_S n) 2 189 [.inr (.inr 103), .inl x] σ (fun r σ' => (r = some (.inl 1) ∧ jk_h b (σ 103 9) (σ 103 8) = x ∧ σ' = jw_up σ 103 8 (σ 103 8 + 1)) ∨ (r = some (.inl 0) ∧ jk_h b (σ 103 9) (σ 103 8) ≠ x ∧ σ' = jw_up σ 103 10 (-1000 * 1 - σ 103 8))) := by
  refine jw_T_of (D := 1) (M := mm_189) rfl (Nat.le_of_ble_eq_true rfl) (ls0 := [some (.inr (.inr 103)), some (.inl x)]) rfl ?_ (by rintro _ _ (⟨rfl, -⟩ | ⟨rfl, -⟩) <;> rfl)
  have hhr := jk_h_rg (b := b) (n := σ 103 9) (i := σ 103 8) ht.1.1 (fun j j0 j1 => (ht.2.2 j j0 j1).2.2)
  have hq0 := ht.1
  have rx := hx
  unfold jw_rg at rx
  refine jw_W_n 1 (i' := 1) (ls' := [some (.inr (.inr 103)), some (.inl x)]) (st' := [.inr (.inr 103)]) rfl ?_
  refine jw_W_call (as := [.inr (.inr 103)]) (rest := []) rfl rfl rfl rfl (Nat.le_of_ble_eq_true rfl) (.inr rfl) (jk_hereR ht) (by omega) ?_ rfl
  rintro r1 σz ⟨rfl, hs⟩
  rw [hs]
  show jw_W (js_S n) _ md_189 2 [some (.inr (.inr 103)), some (.inl x)] [.inl (jk_h b (σ 103 9) (σ 103 8))] σ _
  refine jw_W_n 1 (i' := 3) (ls' := [some (.inr (.inr 103)), some (.inl x)]) (st' := [.inl x, .inl (jk_h b (σ 103 9) (σ 103 8))]) rfl ?_
  refine jw_W_ic rfl (by unfold jw_rg; omega) (by unfold jw_rg; omega) (fun hc1 => ?_) (fun hc1 => ?_)
  · have hc1 : (jk_h b (σ 103 9) (σ 103 8)) = x := hc1
    refine jw_W_n 2 (i' := 12) (ls' := [some (.inr (.inr 103)), some (.inl x)]) (st' := [.inr (.inr 103), .inr (.inr 103)]) rfl ?_
    refine jw_W_gf rfl rfl rfl ?_
    show jw_W (js_S n) _ md_189 13 [some (.inr (.inr 103)), some (.inl x)] [.inl (σ 103 8), .inr (.inr 103)] σ _
    refine jw_W_n 2 (i' := 15) (ls' := [some (.inr (.inr 103)), some (.inl x)]) (st' := [.inl (σ 103 8 + 1), .inr (.inr 103)]) rfl ?_
    refine jw_W_pf (a := σ 103 8 + 1) rfl (by omega) rfl rfl rfl rfl rfl ?_
    refine jw_W_n 1 (i' := 17) (ls' := [some (.inr (.inr 103)), some (.inl x)]) (st' := [.inl 1]) rfl ?_
    refine jw_W_ir rfl ?_
    exact .inl ⟨rfl, by omega, rfl⟩
  · have hc1 : ¬ ((jk_h b (σ 103 9) (σ 103 8)) = x) := hc1
    refine jw_W_n 3 (i' := 7) (ls' := [some (.inr (.inr 103)), some (.inl x)]) (st' := [.inr (.inr 103), .inl 1, .inr (.inr 103)]) rfl ?_
    refine jw_W_gf rfl rfl rfl ?_
    show jw_W (js_S n) _ md_189 8 [some (.inr (.inr 103)), some (.inl x)] [.inl (σ 103 8), .inl 1, .inr (.inr 103)] σ _
    refine jw_W_call (as := [.inr (.inr 103), .inl 1, .inl (σ 103 8)]) (rest := []) rfl rfl rfl rfl (Nat.le_of_ble_eq_true rfl) (.inr rfl) (jk_wrongAt (by omega) (by omega)) (by omega) ?_ rfl
    rintro r1 σz ⟨rfl, hs⟩
    rw [hs]
    show jw_W (js_S n) _ md_189 9 [some (.inr (.inr 103)), some (.inl x)] [.inl 0] ((jw_up σ 103 10 (-1000 * 1 - σ 103 8))) _
    refine jw_W_ir rfl ?_
    exact .inr ⟨rfl, by omega, rfl⟩

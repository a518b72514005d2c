/-! ===== the law, the class: what holds at each step ===== -/
/-- the law's text of the class: its row is 14 or 45 -/
def jl_tx (b : Int → Int) (σ : jw_H) : Prop := (σ 43 3 = 14 ∨ σ 43 3 = 45) ∧ (0 ≤ σ 43 0 ∧ σ 43 0 ≤ 100000) ∧ (0 ≤ σ 43 1 ∧ σ 43 1 ≤ 240) ∧ ∀ j, 0 ≤ j → j < σ 43 1 → σ (σ 43 3).toNat j = b j ∧ 0 ≤ b j ∧ b j ≤ 255
theorem jl_tx_of {b : Int → Int} {σ σ' : jw_H} (h : jl_tx b σ) (t3 : σ' 43 3 = σ 43 3) (t1 : σ' 43 1 = σ 43 1) (t0 : 0 ≤ σ' 43 0 ∧ σ' 43 0 ≤ 100000) (f : ∀ c, c = 14 ∨ c = 45 → σ' c = σ c) : jl_tx b σ' := by
  obtain ⟨g1, g2, g3, g4⟩ := h
  have hr : (σ 43 3).toNat = 14 ∨ (σ 43 3).toNat = 45 := by omega
  unfold jl_tx
  rw [t3, t1, f _ hr]
  exact ⟨g1, t0, g3, g4⟩
def jl_X (b : Int → Int) (m : Int) (e : Int → Int) (σ : jw_H) : Prop := jl_tx b σ ∧ σ 43 1 = m ∧ (0 ≤ σ 43 0 ∧ σ 43 0 ≤ m) ∧ m ≤ 260 ∧ (-10000 ≤ σ 43 2 ∧ σ 43 2 ≤ 10000) ∧ (σ 42 9 = 0 ∨ σ 42 9 = 1) ∧ jl_st σ ∧ ∀ j, 0 ≤ j → j < 7 → σ 46 j = e j ∧ jw_rg (e j)
def jl_D (σ σ' : jw_H) : Prop := (∀ c, c ≠ 42 → c ≠ 43 → σ' c = σ c) ∧ (∀ j, j ≠ 9 → σ' 42 j = σ 42 j) ∧ (σ 43 2 ≠ 0 → σ' 43 2 = σ 43 2) ∧ σ 43 0 ≤ σ' 43 0
def jl_E (b : Int → Int) (m : Int) (e : Int → Int) (σ σ' : jw_H) : Prop := jl_X b m e σ' ∧ jl_D σ σ' ∧ σ' 42 = σ 42
theorem jl_D_rf (σ : jw_H) : jl_D σ σ := ⟨fun _ _ _ => rfl, fun _ _ => rfl, fun _ => rfl, Int.le_refl _⟩
theorem jl_D_tr {σ σ' σ'' : jw_H} (h : jl_D σ σ') (k : jl_D σ' σ'') : jl_D σ σ'' := ⟨fun c h1 h2 => (k.1 c h1 h2).trans (h.1 c h1 h2), fun j hj => (k.2.1 j hj).trans (h.2.1 j hj), fun hn => by rw [← h.2.2.1 hn]; exact k.2.2.1 (by rw [h.2.2.1 hn]; exact hn), Int.le_trans h.2.2.2 k.2.2.2⟩
theorem jl_here0 {n : Nat} {σ : jw_H} {b : Int → Int} (ht : jl_tx b σ) : jw_T (js_S n) 1 107 [.inr (.inr 43)] σ (fun r σ' => r = some (.inl (jk_h b (σ 43 1) (σ 43 0))) ∧ σ' = σ) := by
  refine jw_T_of (D := 0) (M := mm_107) rfl (Nat.le_of_ble_eq_true rfl) (ls0 := [some (.inr (.inr 43))]) rfl ?_ (by rintro _ _ ⟨rfl, -⟩; rfl)
  obtain ⟨h3, hq0, hq1, hb0⟩ := ht
  rcases h3 with h3 | h3
  · have h14 : (σ 43 3).toNat = 14 := by rw [h3]; rfl
    have hb := fun j (j0 : 0 ≤ j) (j1 : j < σ 43 1) => (hb0 j j0 j1)
    rw [h14] at hb
    refine jw_W_n 1 (i' := 1) (ls' := [some (.inr (.inr 43))]) (st' := [.inr (.inr 43)]) rfl ?_
    refine jw_W_gf rfl rfl rfl ?_
    show jw_W (js_S n) _ md_107 2 [some (.inr (.inr 43))] [.inl (σ 43 0)] σ _
    refine jw_W_if rfl (by unfold jw_rg; omega) (fun hc1 => ?_) (fun hc1 => ?_)
    · have hc1 : (σ 43 0) < 0 := hc1
      refine jw_W_n 1 (i' := 15) (ls' := [some (.inr (.inr 43))]) (st' := [.inl ((-1))]) rfl ?_
      refine jw_W_ir rfl ?_
      exact ⟨by unfold jk_h; rw [if_neg (by omega)], rfl⟩
    · have hc1 : ¬ ((σ 43 0) < 0) := hc1
      refine jw_W_n 1 (i' := 4) (ls' := [some (.inr (.inr 43))]) (st' := [.inr (.inr 43)]) rfl ?_
      refine jw_W_gf rfl rfl rfl ?_
      show jw_W (js_S n) _ md_107 5 [some (.inr (.inr 43))] [.inl (σ 43 0)] σ _
      refine jw_W_n 1 (i' := 6) (ls' := [some (.inr (.inr 43))]) (st' := [.inr (.inr 43), .inl (σ 43 0)]) rfl ?_
      refine jw_W_gf rfl rfl rfl ?_
      show jw_W (js_S n) _ md_107 7 [some (.inr (.inr 43))] [.inl (σ 43 1), .inl (σ 43 0)] σ _
      refine jw_W_ic rfl (by unfold jw_rg; omega) (by unfold jw_rg; omega) (fun hc2 => ?_) (fun hc2 => ?_)
      · have hc2 : (σ 43 0) ≥ (σ 43 1) := hc2
        refine jw_W_n 1 (i' := 15) (ls' := [some (.inr (.inr 43))]) (st' := [.inl ((-1))]) rfl ?_
        refine jw_W_ir rfl ?_
        exact ⟨by unfold jk_h; rw [if_neg (by omega)], rfl⟩
      · have hc2 : ¬ ((σ 43 0) ≥ (σ 43 1)) := hc2
        refine jw_W_n 1 (i' := 9) (ls' := [some (.inr (.inr 43))]) (st' := [.inr (.inr 43)]) rfl ?_
        refine jw_W_gf rfl rfl rfl ?_
        show jw_W (js_S n) _ md_107 10 [some (.inr (.inr 43))] [.inr (.inr ((σ 43 3).toNat))] σ _
        rw [h14]
        refine jw_W_n 1 (i' := 11) (ls' := [some (.inr (.inr 43))]) (st' := [.inr (.inr 43), .inr (.inr 14)]) rfl ?_
        refine jw_W_gf rfl rfl rfl ?_
        show jw_W (js_S n) _ md_107 12 [some (.inr (.inr 43))] [.inl (σ 43 0), .inr (.inr 14)] σ _
        refine jw_W_ia rfl rfl (by omega) (by omega) (by omega) ?_
        show jw_W (js_S n) _ md_107 13 [some (.inr (.inr 43))] [.inl (σ 14 (σ 43 0))] σ _
        refine jw_W_n 1 (i' := 15) (ls' := [some (.inr (.inr 43))]) (st' := [.inl (σ 14 (σ 43 0))]) rfl ?_
        refine jw_W_ir rfl ?_
        exact ⟨by unfold jk_h; rw [if_pos (by omega), (hb _ (by omega) (by omega)).1], rfl⟩
  · have h14 : (σ 43 3).toNat = 45 := by rw [h3]; rfl
    have hb := fun j (j0 : 0 ≤ j) (j1 : j < σ 43 1) => (hb0 j j0 j1)
    rw [h14] at hb
    refine jw_W_n 1 (i' := 1) (ls' := [some (.inr (.inr 43))]) (st' := [.inr (.inr 43)]) rfl ?_
    refine jw_W_gf rfl rfl rfl ?_
    show jw_W (js_S n) _ md_107 2 [some (.inr (.inr 43))] [.inl (σ 43 0)] σ _
    refine jw_W_if rfl (by unfold jw_rg; omega) (fun hc1 => ?_) (fun hc1 => ?_)
    · have hc1 : (σ 43 0) < 0 := hc1
      refine jw_W_n 1 (i' := 15) (ls' := [some (.inr (.inr 43))]) (st' := [.inl ((-1))]) rfl ?_
      refine jw_W_ir rfl ?_
      exact ⟨by unfold jk_h; rw [if_neg (by omega)], rfl⟩
    · have hc1 : ¬ ((σ 43 0) < 0) := hc1
      refine jw_W_n 1 (i' := 4) (ls' := [some (.inr (.inr 43))]) (st' := [.inr (.inr 43)]) rfl ?_
      refine jw_W_gf rfl rfl rfl ?_
      show jw_W (js_S n) _ md_107 5 [some (.inr (.inr 43))] [.inl (σ 43 0)] σ _
      refine jw_W_n 1 (i' := 6) (ls' := [some (.inr (.inr 43))]) (st' := [.inr (.inr 43), .inl (σ 43 0)]) rfl ?_
      refine jw_W_gf rfl rfl rfl ?_
      show jw_W (js_S n) _ md_107 7 [some (.inr (.inr 43))] [.inl (σ 43 1), .inl (σ 43 0)] σ _
      refine jw_W_ic rfl (by unfold jw_rg; omega) (by unfold jw_rg; omega) (fun hc2 => ?_) (fun hc2 => ?_)
      · have hc2 : (σ 43 0) ≥ (σ 43 1) := hc2
        refine jw_W_n 1 (i' := 15) (ls' := [some (.inr (.inr 43))]) (st' := [.inl ((-1))]) rfl ?_
        refine jw_W_ir rfl ?_
        exact ⟨by unfold jk_h; rw [if_neg (by omega)], rfl⟩
      · have hc2 : ¬ ((σ 43 0) ≥ (σ 43 1)) := hc2
        refine jw_W_n 1 (i' := 9) (ls' := [some (.inr (.inr 43))]) (st' := [.inr (.inr 43)]) rfl ?_
        refine jw_W_gf rfl rfl rfl ?_
        show jw_W (js_S n) _ md_107 10 [some (.inr (.inr 43))] [.inr (.inr ((σ 43 3).toNat))] σ _
        rw [h14]
        refine jw_W_n 1 (i' := 11) (ls' := [some (.inr (.inr 43))]) (st' := [.inr (.inr 43), .inr (.inr 45)]) rfl ?_
        refine jw_W_gf rfl rfl rfl ?_
        show jw_W (js_S n) _ md_107 12 [some (.inr (.inr 43))] [.inl (σ 43 0), .inr (.inr 45)] σ _
        refine jw_W_ia rfl rfl (by omega) (by omega) (by omega) ?_
        show jw_W (js_S n) _ md_107 13 [some (.inr (.inr 43))] [.inl (σ 45 (σ 43 0))] σ _
        refine jw_W_n 1 (i' := 15) (ls' := [some (.inr (.inr 43))]) (st' := [.inl (σ 45 (σ 43 0))]) rfl ?_
        refine jw_W_ir rfl ?_
        exact ⟨by unfold jk_h; rw [if_pos (by omega), (hb _ (by omega) (by omega)).1], rfl⟩
theorem jl_expect0 {n : Nat} {σ : jw_H} {b : Int → Int} (ht : jl_tx b σ) {x : Int} (hx : jw_rg x) (h2 : jw_rg (σ 43 2))  : jw_T (js_S n) 2 108 [.inr (.inr 43), .inl x] σ (fun r σ' => r = none ∧ ((jk_h b (σ 43 1) (σ 43 0) = x ∧ σ' = jw_up σ 43 0 (σ 43 0 + 1)) ∨ (jk_h b (σ 43 1) (σ 43 0) ≠ x ∧ σ' = if σ 43 2 = 0 then jw_up σ 43 2 (-1000 * 1 - σ 43 0) else σ))) := by
  refine jw_T_of (D := 1) (M := mm_108) rfl (Nat.le_of_ble_eq_true rfl) (ls0 := [some (.inr (.inr 43)), some (.inl x)]) rfl ?_ (by rintro _ _ ⟨rfl, -⟩; rfl)
  have hhr := jk_h_rg (b := b) (n := σ 43 1) (i := σ 43 0) ht.2.1.1 (fun j j0 j1 => (ht.2.2.2 j j0 j1).2)
  have hq0 := ht.2.1
  have rx := hx
  unfold jw_rg at rx
  refine jw_W_n 1 (i' := 1) (ls' := [some (.inr (.inr 43)), some (.inl x)]) (st' := [.inr (.inr 43)]) rfl ?_
  refine jw_W_call (as := [.inr (.inr 43)]) (rest := []) rfl rfl rfl rfl (Nat.le_of_ble_eq_true rfl) (.inr rfl) (jl_here0 ht) (by omega) ?_ rfl
  rintro r1 σz ⟨rfl, hs⟩
  rw [hs]
  show jw_W (js_S n) _ md_108 2 [some (.inr (.inr 43)), some (.inl x)] [.inl (jk_h b (σ 43 1) (σ 43 0))] σ _
  refine jw_W_n 1 (i' := 3) (ls' := [some (.inr (.inr 43)), some (.inl x)]) (st' := [.inl x, .inl (jk_h b (σ 43 1) (σ 43 0))]) rfl ?_
  refine jw_W_ic rfl (by unfold jw_rg; omega) (by unfold jw_rg; omega) (fun hc1 => ?_) (fun hc1 => ?_)
  · have hc1 : (jk_h b (σ 43 1) (σ 43 0)) ≠ x := hc1
    refine jw_W_n 3 (i' := 14) (ls' := [some (.inr (.inr 43)), some (.inl x)]) (st' := [.inr (.inr 43), .inl 1, .inr (.inr 43)]) rfl ?_
    refine jw_W_gf rfl rfl rfl ?_
    show jw_W (js_S n) _ md_108 15 [some (.inr (.inr 43)), some (.inl x)] [.inl (σ 43 0), .inl 1, .inr (.inr 43)] σ _
    refine jw_W_call (as := [.inr (.inr 43), .inl 1, .inl (σ 43 0)]) (rest := []) rfl rfl rfl rfl (Nat.le_of_ble_eq_true rfl) (.inr rfl) (jk_fail (jk_to_43 n) (by omega) (by omega) h2) (by omega) ?_ rfl
    rintro r1 σ1 ⟨rfl, hs⟩
    show jw_W (js_S n) _ md_108 16 [some (.inr (.inr 43)), some (.inl x)] [] σ1 _
    refine jw_W_re rfl ?_
    exact ⟨rfl, .inr ⟨by omega, hs⟩⟩
  · have hc1 : (jk_h b (σ 43 1) (σ 43 0)) = x := Classical.not_not.mp hc1
    refine jw_W_n 2 (i' := 6) (ls' := [some (.inr (.inr 43)), some (.inl x)]) (st' := [.inr (.inr 43), .inr (.inr 43)]) rfl ?_
    refine jw_W_gf rfl rfl rfl ?_
    show jw_W (js_S n) _ md_108 7 [some (.inr (.inr 43)), some (.inl x)] [.inl (σ 43 0), .inr (.inr 43)] σ _
    refine jw_W_n 2 (i' := 9) (ls' := [some (.inr (.inr 43)), some (.inl x)]) (st' := [.inl (σ 43 0 + 1), .inr (.inr 43)]) rfl ?_
    refine jw_W_pf (a := σ 43 0 + 1) rfl (by omega) rfl rfl rfl rfl rfl ?_
    refine jw_W_n 1 (i' := 16) (ls' := [some (.inr (.inr 43)), some (.inl x)]) (st' := []) rfl ?_
    refine jw_W_re rfl ?_
    exact ⟨rfl, .inl ⟨by omega, rfl⟩⟩
theorem jl_refuse0 {n : Nat} {σ : jw_H} {b : Int → Int} (ht : jl_tx b σ) (h2 : jw_rg (σ 43 2))  : jw_T (js_S n) 2 111 [.inr (.inr 43)] σ (fun r σ' => r = none ∧ ((¬ jk_dg (jk_h b (σ 43 1) (σ 43 0)) ∧ σ' = σ) ∨ (jk_dg (jk_h b (σ 43 1) (σ 43 0)) ∧ σ' = if σ 43 2 = 0 then jw_up σ 43 2 (-1000 * 2 - σ 43 0) else σ))) := by
  refine jw_T_of (D := 1) (M := mm_111) rfl (Nat.le_of_ble_eq_true rfl) (ls0 := [some (.inr (.inr 43))]) rfl ?_ (by rintro _ _ ⟨rfl, -⟩; rfl)
  have hhr := jk_h_rg (b := b) (n := σ 43 1) (i := σ 43 0) ht.2.1.1 (fun j j0 j1 => (ht.2.2.2 j j0 j1).2)
  have hq0 := ht.2.1
  refine jw_W_n 2 (i' := 2) (ls' := [some (.inr (.inr 43))]) (st' := [.inr (.inr 43), .inr (.inr 43)]) rfl ?_
  refine jw_W_call (as := [.inr (.inr 43)]) (rest := [.inr (.inr 43)]) rfl rfl rfl rfl (Nat.le_of_ble_eq_true rfl) (.inr rfl) (jl_here0 ht) (by omega) ?_ rfl
  rintro r1 σz ⟨rfl, hs⟩
  rw [hs]
  show jw_W (js_S n) _ md_111 3 [some (.inr (.inr 43))] [.inl (jk_h b (σ 43 1) (σ 43 0)), .inr (.inr 43)] σ _
  refine jw_W_call (as := [.inr (.inr 43), .inl (jk_h b (σ 43 1) (σ 43 0))]) (rest := []) rfl rfl rfl rfl (Nat.le_of_ble_eq_true rfl) (.inr rfl) (jk_isDigit (jk_to_43 n) (by unfold jw_rg; omega)) (by omega) ?_ rfl
  rintro r1 σz (⟨rfl, hs, q1⟩ | ⟨rfl, hs, q1⟩)
  · rw [hs]
    show jw_W (js_S n) _ md_111 4 [some (.inr (.inr 43))] [.inl 1] σ _
    refine jw_W_if rfl (by unfold jw_rg; omega) (fun hc1 => ?_) (fun hc1 => ?_)
    · exact absurd hc1 (show ¬ ((1 : Int) = 0) by omega)
    · clear hc1
      refine jw_W_n 3 (i' := 8) (ls' := [some (.inr (.inr 43))]) (st' := [.inr (.inr 43), .inl 2, .inr (.inr 43)]) rfl ?_
      refine jw_W_gf rfl rfl rfl ?_
      show jw_W (js_S n) _ md_111 9 [some (.inr (.inr 43))] [.inl (σ 43 0), .inl 2, .inr (.inr 43)] σ _
      refine jw_W_call (as := [.inr (.inr 43), .inl 2, .inl (σ 43 0)]) (rest := []) rfl rfl rfl rfl (Nat.le_of_ble_eq_true rfl) (.inr rfl) (jk_fail (jk_to_43 n) (by omega) (by omega) h2) (by omega) ?_ rfl
      rintro r1 σ1 ⟨rfl, hs⟩
      show jw_W (js_S n) _ md_111 10 [some (.inr (.inr 43))] [] σ1 _
      refine jw_W_re rfl ?_
      exact ⟨rfl, .inr ⟨by first | assumption | omega, hs⟩⟩
  · rw [hs]
    show jw_W (js_S n) _ md_111 4 [some (.inr (.inr 43))] [.inl 0] σ _
    refine jw_W_if rfl (by unfold jw_rg; omega) (fun hc2 => ?_) (fun hc2 => ?_)
    · clear hc2
      refine jw_W_re rfl ?_
      exact ⟨rfl, .inl ⟨by first | assumption | omega, rfl⟩⟩
    · exact absurd hc2 (show ¬ ¬ ((0 : Int) = 0) by omega)
section JLX
variable {n : Nat} {b : Int → Int} {m : Int} {e : Int → Int} {σ : jw_H}
theorem jl_E_rf (h : jl_X b m e σ) : jl_E b m e σ σ := ⟨h, jl_D_rf σ, rfl⟩
theorem jl_E_tr {σ' σ'' : jw_H} (h : jl_E b m e σ σ') (k : jl_E b m e σ' σ'') : jl_E b m e σ σ'' := ⟨k.1, jl_D_tr h.2.1 k.2.1, k.2.2.trans h.2.2⟩
/-- only the text's place and fault change -/
theorem jl_E_of {σ' : jw_H} (h : jl_X b m e σ) (f : ∀ c, c ≠ 43 → σ' c = σ c) (t1 : σ' 43 1 = σ 43 1) (t3 : σ' 43 3 = σ 43 3) (ta : σ 43 0 ≤ σ' 43 0 ∧ σ' 43 0 ≤ m) (r2 : -10000 ≤ σ' 43 2 ∧ σ' 43 2 ≤ 10000) (st : σ 43 2 ≠ 0 → σ' 43 2 = σ 43 2) : jl_E b m e σ σ' := by
  obtain ⟨g1, h3, h4, h5, h6, h7, h8, h9⟩ := h
  refine ⟨⟨jl_tx_of g1 t3 t1 (by omega) (fun c hc => f c (by omega)), by rw [t1]; exact h3, by omega, h5, r2, by rw [f 42 (by omega)]; exact h7, ?_, fun j j0 j1 => by rw [f 46 (by omega)]; exact h9 j j0 j1⟩, ⟨fun c _ c2 => f c c2, fun j _ => by rw [f 42 (by omega)], st, ta.1⟩, f 42 (by omega)⟩
  unfold jl_st jk_sw at h8 ⊢
  rw [f 1 (by omega), f (1 + 1) (by omega)]
  exact h8
theorem jl_E_to (h : jl_X b m e σ) {i : Int} (hi : σ 43 0 ≤ i ∧ i ≤ m) : jl_E b m e σ (jw_up σ 43 0 i) := by
  have h6 := h.2.2.2.2.1
  exact jl_E_of h (fun c hc => jw_up_out _ _ _ hc) (jw_up_ne _ (by omega)) (jw_up_ne _ (by omega)) (by rw [jw_up_eq]; exact hi) (by rw [jw_up_ne _ (by omega)]; exact h6) (fun _ => jw_up_ne _ (by omega))
theorem jl_fl_eq {c i : Int} (h : σ 43 2 = 0) : jk_fl σ 43 c i 43 2 = -1000 * c - i := by
  unfold jk_fl
  rw [if_pos h, jw_up_eq]
theorem jl_fl_st {c i : Int} (h : σ 43 2 ≠ 0) : jk_fl σ 43 c i = σ := if_neg h
theorem jl_E_fl (h : jl_X b m e σ) {c i : Int} (hc : 0 ≤ c ∧ c ≤ 9) (hi : 0 ≤ i ∧ i ≤ 500) : jl_E b m e σ (jk_fl σ 43 c i) := by
  have h4 := h.2.2.1
  have h6 := h.2.2.2.2.1
  have h6' : -10000 ≤ jk_fl σ 43 c i 43 2 ∧ jk_fl σ 43 c i 43 2 ≤ 10000 := by
    by_cases hz : σ 43 2 = 0
    · rw [jl_fl_eq hz]
      omega
    · rw [jl_fl_st hz]
      exact h6
  exact jl_E_of h (fun c hc => by funext j; exact jk_fl_ne _ _ _ _ (.inl hc)) (jk_fl_ne _ _ _ _ (by omega)) (jk_fl_ne _ _ _ _ (by omega)) (by rw [jk_fl_ne _ _ _ _ (by omega)]; omega) h6' (fun hz => by rw [jl_fl_st hz])
theorem jl_X_h (h : jl_X b m e σ) {i : Int} (i0 : 0 ≤ i) : -1 ≤ jk_h b m i ∧ jk_h b m i ≤ 255 ∧ (jk_h b m i ≠ -1 → i < m) := by
  obtain ⟨h2, h3, -⟩ := h
  have hr := jk_h_rg (b := b) (n := σ 43 1) (i := i) i0 (fun j j0 j1 => (h2.2.2.2 j j0 j1).2)
  rw [h3] at hr
  exact ⟨hr.1, hr.2, fun hn => jk_h_lt hn⟩
theorem jl_here (h : jl_X b m e σ) : jw_T (js_S n) 1 107 [.inr (.inr 43)] σ (fun r σ' => r = some (.inl (jk_h b m (σ 43 0))) ∧ σ' = σ) := by
  obtain ⟨h2, h3, -⟩ := h
  rw [← h3]
  exact jl_here0 h2
theorem jl_fail (h : jl_X b m e σ) {c i : Int} (hc : 0 ≤ c ∧ c ≤ 9) (hi : 0 ≤ i ∧ i ≤ 500) : jw_T (js_S n) 1 106 [.inr (.inr 43), .inl c, .inl i] σ (fun r σ' => r = none ∧ jl_E b m e σ σ' ∧ σ' 43 0 = σ 43 0 ∧ (σ 43 2 = 0 → σ' 43 2 = -1000 * c - i)) := by
  have h6 := h.2.2.2.2.1
  refine jw_T_mono (jk_fail (jk_to_43 n) (by omega) (by omega) (by unfold jw_rg; omega)) (Nat.le_refl _) (fun r σ' hh => ⟨hh.1, ?_⟩)
  rw [show σ' = jk_fl σ 43 c i from hh.2]
  exact ⟨jl_E_fl h hc hi, jk_fl_ne _ _ _ _ (by omega), fun hz => jl_fl_eq hz⟩
theorem jl_expect (h : jl_X b m e σ) {x : Int} (hx : 0 ≤ x ∧ x ≤ 255) : jw_T (js_S n) 2 108 [.inr (.inr 43), .inl x] σ (fun r σ' => r = none ∧ jl_E b m e σ σ' ∧ ((jk_h b m (σ 43 0) = x ∧ σ' 43 2 = σ 43 2 ∧ σ' 43 0 = σ 43 0 + 1) ∨ (jk_h b m (σ 43 0) ≠ x ∧ (σ 43 2 = 0 → σ' 43 2 = -1000 * 1 - σ 43 0)))) := by
  have h3 := h.2.1
  have h4 := h.2.2.1
  have h5 := h.2.2.2.1
  have h6 := h.2.2.2.2.1
  have hh := jl_X_h h h4.1
  refine jw_T_mono (jl_expect0 h.1 (by unfold jw_rg; omega) (by unfold jw_rg; omega)) (Nat.le_refl _) ?_
  rw [h3]
  rintro r σ' ⟨hr, ⟨hc, rfl⟩ | ⟨hc, hs⟩⟩
  · have hl := hh.2.2 (by omega)
    exact ⟨hr, jl_E_to h (by omega), .inl ⟨hc, jw_up_ne _ (by omega), jw_up_eq _ _ _ _⟩⟩
  · rw [show σ' = jk_fl σ 43 1 (σ 43 0) from hs]
    exact ⟨hr, jl_E_fl h (by omega) (by omega), .inr ⟨hc, fun hz => jl_fl_eq hz⟩⟩
theorem jl_refuse (h : jl_X b m e σ) : jw_T (js_S n) 2 111 [.inr (.inr 43)] σ (fun r σ' => r = none ∧ jl_E b m e σ σ' ∧ σ' 43 0 = σ 43 0 ∧ ((¬ jk_dg (jk_h b m (σ 43 0)) ∧ σ' 43 2 = σ 43 2) ∨ (jk_dg (jk_h b m (σ 43 0)) ∧ (σ 43 2 = 0 → σ' 43 2 = -1000 * 2 - σ 43 0)))) := by
  have h3 := h.2.1
  have h4 := h.2.2.1
  have h5 := h.2.2.2.1
  have h6 := h.2.2.2.2.1
  refine jw_T_mono (jl_refuse0 h.1 (by unfold jw_rg; omega)) (Nat.le_refl _) ?_
  rw [h3]
  rintro r σ' ⟨hr, ⟨hc, rfl⟩ | ⟨hc, hs⟩⟩
  · exact ⟨hr, jl_E_rf h, rfl, .inl ⟨hc, rfl⟩⟩
  · rw [show σ' = jk_fl σ 43 2 (σ 43 0) from hs]
    exact ⟨hr, jl_E_fl h (by omega) (by omega), jk_fl_ne _ _ _ _ (by omega), .inr ⟨hc, fun hz => jl_fl_eq hz⟩⟩
theorem jl_num_rg : ∀ (f : Nat) {i a : Int}, 0 ≤ a → 0 ≤ (jl_num b m f i a).1 ∧ (jl_num b m f i a).1 + 1 ≤ (a + 1) * 10 ^ f
  | 0, i, a, h => ⟨h, by show a + 1 ≤ (a + 1) * 1; omega⟩
  | f + 1, i, a, h => by
    have p0 : (0 : Int) ≤ 10 ^ f := Int.le_of_lt (Int.pow_pos (by omega))
    unfold jl_num
    split
    · rename_i hc
      have k := jl_num_rg f (i := i + 1) (a := 10 * a + jk_h b m i - 48) (by omega)
      refine ⟨k.1, Int.le_trans k.2 ?_⟩
      rw [Int.pow_succ, Int.mul_comm ((10 : Int) ^ f) 10, ← Int.mul_assoc]
      exact Int.mul_le_mul_of_nonneg_right (by omega) p0
    · refine ⟨h, ?_⟩
      have p1 : (1 : Int) ≤ 10 ^ (f + 1) := Int.pow_pos (by omega)
      have := Int.mul_le_mul_of_nonneg_left p1 (show (0 : Int) ≤ a + 1 by omega)
      show a + 1 ≤ _
      omega
end JLX
theorem jl_number_loop {n : Nat} {σ : jw_H} {b : Int → Int} {m : Int} {e : Int → Int} : ∀ (k : Nat) {τ : jw_H} {a d : Int}, jl_X b m e τ → τ = jw_up σ 43 0 (τ 43 0) → 0 ≤ d → d + k = 5 → jw_W (js_S n) 1 md_110 14 [some (.inr (.inr 43)), some (.inl 5), some (.inl a), some (.inl d)] [] τ (fun r σ' => r = some (.inl (jl_num b m k (τ 43 0) a).1) ∧ σ' = jw_up σ 43 0 (jl_num b m k (τ 43 0) a).2)
  | k, τ, a, d, hX, hτ, d0, hk => by
    have h4 := hX.2.2.1
    have h5 := hX.2.2.2.1
    have hh := jl_X_h hX h4.1
    have stop : (k = 0 ∨ ¬ (48 ≤ jk_h b m (τ 43 0) ∧ jk_h b m (τ 43 0) ≤ 57)) → some (Sum.inl a) = some (Sum.inl (jl_num b m k (τ 43 0) a).1 : jw_V) ∧ τ = jw_up σ 43 0 (jl_num b m k (τ 43 0) a).2 := by
      intro hn
      have ee : jl_num b m k (τ 43 0) a = (a, τ 43 0) := by
        match k, hn with
        | 0, _ => rfl
        | k + 1, hn => exact if_neg (by omega)
      rw [ee]
      exact ⟨rfl, hτ⟩
    have go : (48 ≤ jk_h b m (τ 43 0) ∧ jk_h b m (τ 43 0) ≤ 57) → d < 5 → jw_W (js_S n) 1 md_110 14 [some (.inr (.inr 43)), some (.inl 5), some (.inl (10 * a + jk_h b m (τ 43 0) - 48)), some (.inl (d + 1))] [] (jw_up τ 43 0 (τ 43 0 + 1)) (fun r σ' => r = some (.inl (jl_num b m k (τ 43 0) a).1) ∧ σ' = jw_up σ 43 0 (jl_num b m k (τ 43 0) a).2) := by
      intro hy hd
      have hlt := hh.2.2 (by omega)
      match k, hk with
      | 0, hk => omega
      | k + 1, hk =>
        have ee : jl_num b m (k + 1) (τ 43 0) a = jl_num b m k (τ 43 0 + 1) (10 * a + jk_h b m (τ 43 0) - 48) := if_pos hy
        obtain ⟨υ, hυ⟩ : ∃ υ : jw_H, υ = jw_up τ 43 0 (τ 43 0 + 1) := ⟨_, rfl⟩
        rw [← hυ, ee]
        have e0 : υ 43 0 = τ 43 0 + 1 := by rw [hυ, jw_up_eq]
        rw [← e0]
        refine jl_number_loop k (by rw [hυ]; exact (jl_E_to hX (by omega)).1) ?_ (by omega) (by omega)
        rw [e0, hυ]
        conv => lhs; rw [hτ]
        exact jk_uu _ _ _ _ _
    refine jw_W_n 2 (i' := 16) (ls' := [some (.inr (.inr 43)), some (.inl 5), some (.inl a), some (.inl d)]) (st' := [.inl 5, .inl d]) rfl ?_
    refine jw_W_ic rfl (by unfold jw_rg; omega) (by unfold jw_rg; omega) (fun hc1 => ?_) (fun hc1 => ?_)
    · have hc1 : d ≥ 5 := hc1
      refine jw_W_n 1 (i' := 40) (ls' := [some (.inr (.inr 43)), some (.inl 5), some (.inl a), some (.inl d)]) (st' := [.inl a]) rfl ?_
      refine jw_W_ir rfl ?_
      exact stop (by omega)
    · have hc1 : ¬ (d ≥ 5) := hc1
      refine jw_W_n 2 (i' := 19) (ls' := [some (.inr (.inr 43)), some (.inl 5), some (.inl a), some (.inl d)]) (st' := [.inr (.inr 43), .inr (.inr 43)]) rfl ?_
      refine jw_W_call (as := [.inr (.inr 43)]) (rest := [.inr (.inr 43)]) rfl rfl rfl rfl (Nat.le_of_ble_eq_true rfl) (.inr rfl) (jl_here hX) (by omega) ?_ rfl
      rintro r1 σz ⟨rfl, hs⟩
      rw [hs]
      show jw_W (js_S n) _ md_110 20 [some (.inr (.inr 43)), some (.inl 5), some (.inl a), some (.inl d)] [.inl (jk_h b m (τ 43 0)), .inr (.inr 43)] τ _
      refine jw_W_call (as := [.inr (.inr 43), .inl (jk_h b m (τ 43 0))]) (rest := []) rfl rfl rfl rfl (Nat.le_of_ble_eq_true rfl) (.inr rfl) (jk_isDigit (jk_to_43 n) (by unfold jw_rg; omega)) (by omega) ?_ rfl
      rintro r1 σz (⟨rfl, hs, hd⟩ | ⟨rfl, hs, hd⟩)
      · rw [hs]
        unfold jk_dg at hd
        show jw_W (js_S n) _ md_110 21 [some (.inr (.inr 43)), some (.inl 5), some (.inl a), some (.inl d)] [.inl 1] τ _
        refine jw_W_if rfl (by unfold jw_rg; omega) (fun hc2 => ?_) (fun hc2 => ?_)
        · exact absurd hc2 (show ¬ ((1 : Int) = 0) by omega)
        · clear hc2
          refine jw_W_n 4 (i' := 26) (ls' := [some (.inr (.inr 43)), some (.inl 5), some (.inl a), some (.inl d)]) (st' := [.inr (.inr 43), .inl (10 * a)]) rfl ?_
          refine jw_W_call (as := [.inr (.inr 43)]) (rest := [.inl (10 * a)]) rfl rfl rfl rfl (Nat.le_of_ble_eq_true rfl) (.inr rfl) (jl_here hX) (by omega) ?_ rfl
          rintro r1 σz ⟨rfl, hs⟩
          rw [hs]
          show jw_W (js_S n) _ md_110 27 [some (.inr (.inr 43)), some (.inl 5), some (.inl a), some (.inl d)] [.inl (jk_h b m (τ 43 0)), .inl (10 * a)] τ _
          refine jw_W_n 6 (i' := 33) (ls' := [some (.inr (.inr 43)), some (.inl 5), some (.inl (((10 * a) + (jk_h b m (τ 43 0))) - 48)), some (.inl d)]) (st' := [.inr (.inr 43), .inr (.inr 43)]) rfl ?_
          refine jw_W_gf rfl rfl rfl ?_
          show jw_W (js_S n) _ md_110 34 [some (.inr (.inr 43)), some (.inl 5), some (.inl (((10 * a) + (jk_h b m (τ 43 0))) - 48)), some (.inl d)] [.inl (τ 43 0), .inr (.inr 43)] τ _
          refine jw_W_n 2 (i' := 36) (ls' := [some (.inr (.inr 43)), some (.inl 5), some (.inl (((10 * a) + (jk_h b m (τ 43 0))) - 48)), some (.inl d)]) (st' := [.inl (τ 43 0 + 1), .inr (.inr 43)]) rfl ?_
          refine jw_W_pf (a := τ 43 0 + 1) rfl (by omega) rfl rfl rfl rfl rfl ?_
          refine jw_W_n 2 (i' := 14) (ls' := [some (.inr (.inr 43)), some (.inl 5), some (.inl (((10 * a) + (jk_h b m (τ 43 0))) - 48)), some (.inl (d + 1))]) (st' := []) rfl ?_
          exact go (by omega) (by omega)
      · rw [hs]
        unfold jk_dg at hd
        show jw_W (js_S n) _ md_110 21 [some (.inr (.inr 43)), some (.inl 5), some (.inl a), some (.inl d)] [.inl 0] τ _
        refine jw_W_if rfl (by unfold jw_rg; omega) (fun hc3 => ?_) (fun hc3 => ?_)
        · clear hc3
          refine jw_W_n 1 (i' := 40) (ls' := [some (.inr (.inr 43)), some (.inl 5), some (.inl a), some (.inl d)]) (st' := [.inl a]) rfl ?_
          refine jw_W_ir rfl ?_
          exact stop (by omega)
        · exact absurd hc3 (show ¬ ¬ ((0 : Int) = 0) by omega)
theorem jl_number {n : Nat} {σ : jw_H} {b : Int → Int} {m : Int} {e : Int → Int} (hX : jl_X b m e σ) (hdg : jk_dg (jk_h b m (σ 43 0)))  : jw_T (js_S n) 2 110 [.inr (.inr 43), .inl 5] σ (fun r σ' => r = some (.inl (jl_num b m 5 (σ 43 0) 0).1) ∧ σ' = jw_up σ 43 0 (jl_num b m 5 (σ 43 0) 0).2) := by
  refine jw_T_of (D := 1) (M := mm_110) rfl (Nat.le_of_ble_eq_true rfl) (ls0 := [some (.inr (.inr 43)), some (.inl 5), none, none]) rfl ?_ (by rintro _ _ ⟨rfl, -⟩; rfl)
  have h4 := hX.2.2.1
  have h5 := hX.2.2.2.1
  have h3 := hX.2.1
  have h6 := hX.2.2.2.2.1
  have hh := jl_X_h hX h4.1
  refine jw_W_n 2 (i' := 2) (ls' := [some (.inr (.inr 43)), some (.inl 5), none, none]) (st' := [.inr (.inr 43), .inr (.inr 43)]) rfl ?_
  refine jw_W_call (as := [.inr (.inr 43)]) (rest := [.inr (.inr 43)]) rfl rfl rfl rfl (Nat.le_of_ble_eq_true rfl) (.inr rfl) (jl_here hX) (by omega) ?_ rfl
  rintro r1 σz ⟨rfl, hs⟩
  rw [hs]
  show jw_W (js_S n) _ md_110 3 [some (.inr (.inr 43)), some (.inl 5), none, none] [.inl (jk_h b m (σ 43 0)), .inr (.inr 43)] σ _
  refine jw_W_call (as := [.inr (.inr 43), .inl (jk_h b m (σ 43 0))]) (rest := []) rfl rfl rfl rfl (Nat.le_of_ble_eq_true rfl) (.inr rfl) (jk_isDigit (jk_to_43 n) (by unfold jw_rg; omega)) (by omega) ?_ rfl
  rintro r1 σz (⟨rfl, hs, q1⟩ | ⟨rfl, hs, q1⟩)
  · rw [hs]
    show jw_W (js_S n) _ md_110 4 [some (.inr (.inr 43)), some (.inl 5), none, none] [.inl 1] σ _
    refine jw_W_if rfl (by unfold jw_rg; omega) (fun hc1 => ?_) (fun hc1 => ?_)
    · clear hc1
      refine jw_W_n 4 (i' := 14) (ls' := [some (.inr (.inr 43)), some (.inl 5), some (.inl 0), some (.inl 0)]) (st' := []) rfl ?_
      exact jl_number_loop 5 hX (jk_us σ 43 0).symm (by omega) (by omega)
    · exact absurd hc1 (show ¬ ¬ ((1 : Int) ≠ 0) by omega)
  · exfalso; exact q1 hdg
theorem jl_enter {n : Nat} {σ : jw_H} {b : Int → Int} {m : Int} {e : Int → Int} (hX : jl_X b m e σ) {o : Int} (ho : 0 ≤ o ∧ o ≤ 6) (hlt : σ 43 0 < m)  : jw_T (js_S n) 2 52 [.inr (.inr 42), .inl o] σ (fun r σ' => ∃ v, r = some (.inl v) ∧ jl_E b m e σ σ' ∧ ((v = 0 ∧ o = 6 ∧ (σ 43 2 = 0 → σ' 43 2 = -1000 * 5 - σ 43 0)) ∨ (v = 1 ∧ o < 6 ∧ σ' 43 2 = σ 43 2 ∧ σ' 43 0 = σ 43 0 + 1))) := by
  refine jw_T_of (D := 1) (M := mm_52) rfl (Nat.le_of_ble_eq_true rfl) (ls0 := [some (.inr (.inr 42)), some (.inl o)]) rfl ?_ (by rintro _ _ ⟨_, rfl, -, ⟨rfl, -⟩ | ⟨rfl, -⟩⟩ <;> rfl)
  have h4 := hX.2.2.1
  have h5 := hX.2.2.2.1
  have h3 := hX.2.1
  have h6 := hX.2.2.2.2.1
  have hh := jl_X_h hX h4.1
  refine jw_W_n 2 (i' := 2) (ls' := [some (.inr (.inr 42)), some (.inl o)]) (st' := [.inl 6, .inl o]) rfl ?_
  refine jw_W_ic rfl (by unfold jw_rg; omega) (by unfold jw_rg; omega) (fun hc1 => ?_) (fun hc1 => ?_)
  · have hc1 : o < 6 := hc1
    refine jw_W_n 1 (i' := 13) (ls' := [some (.inr (.inr 42)), some (.inl o)]) (st' := [.inr (.inr 42)]) rfl ?_
    refine jw_W_gf rfl rfl rfl ?_
    show jw_W (js_S n) _ md_52 14 [some (.inr (.inr 42)), some (.inl o)] [.inr (.inr 43)] σ _
    refine jw_W_n 1 (i' := 15) (ls' := [some (.inr (.inr 42)), some (.inl o)]) (st' := [.inr (.inr 43), .inr (.inr 43)]) rfl ?_
    refine jw_W_gf rfl rfl rfl ?_
    show jw_W (js_S n) _ md_52 16 [some (.inr (.inr 42)), some (.inl o)] [.inl (σ 43 0), .inr (.inr 43)] σ _
    refine jw_W_n 2 (i' := 18) (ls' := [some (.inr (.inr 42)), some (.inl o)]) (st' := [.inl (σ 43 0 + 1), .inr (.inr 43)]) rfl ?_
    refine jw_W_pf (a := σ 43 0 + 1) rfl (by omega) rfl rfl rfl rfl rfl ?_
    refine jw_W_n 1 (i' := 20) (ls' := [some (.inr (.inr 42)), some (.inl o)]) (st' := [.inl 1]) rfl ?_
    refine jw_W_ir rfl ?_
    exact ⟨_, rfl, jl_E_to hX (by omega), .inr ⟨rfl, by omega, jw_up_ne _ (by omega), jw_up_eq _ _ _ _⟩⟩
  · have hc1 : ¬ (o < 6) := hc1
    refine jw_W_n 1 (i' := 4) (ls' := [some (.inr (.inr 42)), some (.inl o)]) (st' := [.inr (.inr 42)]) rfl ?_
    refine jw_W_gf rfl rfl rfl ?_
    show jw_W (js_S n) _ md_52 5 [some (.inr (.inr 42)), some (.inl o)] [.inr (.inr 43)] σ _
    refine jw_W_n 2 (i' := 7) (ls' := [some (.inr (.inr 42)), some (.inl o)]) (st' := [.inr (.inr 42), .inl 5, .inr (.inr 43)]) rfl ?_
    refine jw_W_gf rfl rfl rfl ?_
    show jw_W (js_S n) _ md_52 8 [some (.inr (.inr 42)), some (.inl o)] [.inr (.inr 43), .inl 5, .inr (.inr 43)] σ _
    refine jw_W_gf rfl rfl rfl ?_
    show jw_W (js_S n) _ md_52 9 [some (.inr (.inr 42)), some (.inl o)] [.inl (σ 43 0), .inl 5, .inr (.inr 43)] σ _
    refine jw_W_call (as := [.inr (.inr 43), .inl 5, .inl (σ 43 0)]) (rest := []) rfl rfl rfl rfl (Nat.le_of_ble_eq_true rfl) (.inr rfl) (jl_fail hX (by omega) (by omega)) (by omega) ?_ rfl
    rintro r1 σ1 ⟨rfl, hE, h0, h2⟩
    rename jw_H => σ1
    show jw_W (js_S n) _ md_52 10 [some (.inr (.inr 42)), some (.inl o)] [] σ1 _
    refine jw_W_n 1 (i' := 11) (ls' := [some (.inr (.inr 42)), some (.inl o)]) (st' := [.inl 0]) rfl ?_
    refine jw_W_ir rfl ?_
    exact ⟨_, rfl, hE, .inl ⟨rfl, by omega, h2⟩⟩

/-! ===== words (reference): the run of letters and its number ===== -/
def jk_hv (b : Int → Int) (s : Int) : Nat → Int
  | 0 => 0
  | k + 1 => 32 * jk_hv b s k + b (s + (k : Int)) - 96
def jk_hq (b : Int → Int) (s e H : Int) : Prop := (e - s ≤ 5 ∧ H = jk_hv b s (e - s).toNat) ∨ (5 < e - s ∧ H = -1)
theorem jk_isw_2 {b w : Int → Int} {s e : Int} : jk_isw b s e 2 w ↔ e = s + 2 ∧ b (s + 0) = w 0 ∧ b (s + 1) = w 1 := by
  constructor
  · intro h
    exact ⟨by have := h.1; omega, h.2 0 (by omega) (by omega), h.2 1 (by omega) (by omega)⟩
  · intro h
    refine ⟨by have := h.1; omega, fun j j0 j1 => ?_⟩
    obtain ⟨-, h0, h1⟩ := h
    rcases (show j = 0 ∨ j = 1 by omega) with rfl | rfl
    · exact h0
    · exact h1
theorem jk_isw_3 {b w : Int → Int} {s e : Int} : jk_isw b s e 3 w ↔ e = s + 3 ∧ b (s + 0) = w 0 ∧ b (s + 1) = w 1 ∧ b (s + 2) = w 2 := by
  constructor
  · intro h
    exact ⟨by have := h.1; omega, h.2 0 (by omega) (by omega), h.2 1 (by omega) (by omega), h.2 2 (by omega) (by omega)⟩
  · intro h
    refine ⟨by have := h.1; omega, fun j j0 j1 => ?_⟩
    obtain ⟨-, h0, h1, h2⟩ := h
    rcases (show j = 0 ∨ j = 1 ∨ j = 2 by omega) with rfl | rfl | rfl
    · exact h0
    · exact h1
    · exact h2
theorem jk_isw_4 {b w : Int → Int} {s e : Int} : jk_isw b s e 4 w ↔ e = s + 4 ∧ b (s + 0) = w 0 ∧ b (s + 1) = w 1 ∧ b (s + 2) = w 2 ∧ b (s + 3) = w 3 := by
  constructor
  · intro h
    exact ⟨by have := h.1; omega, h.2 0 (by omega) (by omega), h.2 1 (by omega) (by omega), h.2 2 (by omega) (by omega), h.2 3 (by omega) (by omega)⟩
  · intro h
    refine ⟨by have := h.1; omega, fun j j0 j1 => ?_⟩
    obtain ⟨-, h0, h1, h2, h3⟩ := h
    rcases (show j = 0 ∨ j = 1 ∨ j = 2 ∨ j = 3 by omega) with rfl | rfl | rfl | rfl
    · exact h0
    · exact h1
    · exact h2
    · exact h3
theorem jk_isw_5 {b w : Int → Int} {s e : Int} : jk_isw b s e 5 w ↔ e = s + 5 ∧ b (s + 0) = w 0 ∧ b (s + 1) = w 1 ∧ b (s + 2) = w 2 ∧ b (s + 3) = w 3 ∧ b (s + 4) = w 4 := by
  constructor
  · intro h
    exact ⟨by have := h.1; omega, h.2 0 (by omega) (by omega), h.2 1 (by omega) (by omega), h.2 2 (by omega) (by omega), h.2 3 (by omega) (by omega), h.2 4 (by omega) (by omega)⟩
  · intro h
    refine ⟨by have := h.1; omega, fun j j0 j1 => ?_⟩
    obtain ⟨-, h0, h1, h2, h3, h4⟩ := h
    rcases (show j = 0 ∨ j = 1 ∨ j = 2 ∨ j = 3 ∨ j = 4 by omega) with rfl | rfl | rfl | rfl | rfl
    · exact h0
    · exact h1
    · exact h2
    · exact h3
    · exact h4
theorem jk_hash {b : Int → Int} {s e H : Int} (h0 : s ≤ e) (hl : ∀ j, s ≤ j → j < e → 97 ≤ b j ∧ b j ≤ 122) (hq : jk_hq b s e H) : -1 ≤ H ∧ H ≤ 40000000 ∧ (H = 486 ↔ jk_isw b s e 2 jk_w3) ∧ (H = 763496 ↔ jk_isw b s e 4 jk_w5) ∧ (H = 12748404 ↔ jk_isw b s e 5 jk_w7) ∧ (H = 365744 ↔ jk_isw b s e 4 jk_w9) ∧ (H = 2552 ↔ jk_isw b s e 3 jk_w11) := by
  have u3_0 : jk_w3 0 = 111 := rfl
  have u3_1 : jk_w3 1 = 102 := rfl
  have u5_0 : jk_w5 0 = 119 := rfl
  have u5_1 : jk_w5 1 = 105 := rfl
  have u5_2 : jk_w5 2 = 115 := rfl
  have u5_3 : jk_w5 3 = 104 := rfl
  have u7_0 : jk_w7 0 = 108 := rfl
  have u7_1 : jk_w7 1 = 101 := rfl
  have u7_2 : jk_w7 2 = 97 := rfl
  have u7_3 : jk_w7 3 = 115 := rfl
  have u7_4 : jk_w7 4 = 116 := rfl
  have u9_0 : jk_w9 0 = 107 := rfl
  have u9_1 : jk_w9 1 = 101 := rfl
  have u9_2 : jk_w9 2 = 101 := rfl
  have u9_3 : jk_w9 3 = 112 := rfl
  have u11_0 : jk_w11 0 = 98 := rfl
  have u11_1 : jk_w11 1 = 111 := rfl
  have u11_2 : jk_w11 2 = 120 := rfl
  rw [jk_isw_2, jk_isw_4, jk_isw_5, jk_isw_4, jk_isw_3, u3_0, u3_1, u5_0, u5_1, u5_2, u5_3, u7_0, u7_1, u7_2, u7_3, u7_4, u9_0, u9_1, u9_2, u9_3, u11_0, u11_1, u11_2]
  rcases hq with ⟨h1, h2⟩ | ⟨h1, h2⟩
  · rcases (show e = s + 0 ∨ e = s + 1 ∨ e = s + 2 ∨ e = s + 3 ∨ e = s + 4 ∨ e = s + 5 by omega) with rfl | rfl | rfl | rfl | rfl | rfl
    · rw [show (s + 0 - s).toNat = 0 by omega, show jk_hv b s 0 = 0 from rfl] at h2
      refine ⟨by omega, by omega, ?_, ?_, ?_, ?_, ?_⟩ <;> constructor <;> intro hh <;> omega
    · rw [show (s + 1 - s).toNat = 1 by omega, show jk_hv b s 1 = 32 * (0) + b (s + 0) - 96 from rfl] at h2
      have d0 := hl (s + 0) (by omega) (by omega)
      refine ⟨by omega, by omega, ?_, ?_, ?_, ?_, ?_⟩ <;> constructor <;> intro hh <;> omega
    · rw [show (s + 2 - s).toNat = 2 by omega, show jk_hv b s 2 = 32 * (32 * (0) + b (s + 0) - 96) + b (s + 1) - 96 from rfl] at h2
      have d0 := hl (s + 0) (by omega) (by omega)
      have d1 := hl (s + 1) (by omega) (by omega)
      refine ⟨by omega, by omega, ?_, ?_, ?_, ?_, ?_⟩ <;> constructor <;> intro hh <;> omega
    · rw [show (s + 3 - s).toNat = 3 by omega, show jk_hv b s 3 = 32 * (32 * (32 * (0) + b (s + 0) - 96) + b (s + 1) - 96) + b (s + 2) - 96 from rfl] at h2
      have d0 := hl (s + 0) (by omega) (by omega)
      have d1 := hl (s + 1) (by omega) (by omega)
      have d2 := hl (s + 2) (by omega) (by omega)
      refine ⟨by omega, by omega, ?_, ?_, ?_, ?_, ?_⟩ <;> constructor <;> intro hh <;> omega
    · rw [show (s + 4 - s).toNat = 4 by omega, show jk_hv b s 4 = 32 * (32 * (32 * (32 * (0) + b (s + 0) - 96) + b (s + 1) - 96) + b (s + 2) - 96) + b (s + 3) - 96 from rfl] at h2
      have d0 := hl (s + 0) (by omega) (by omega)
      have d1 := hl (s + 1) (by omega) (by omega)
      have d2 := hl (s + 2) (by omega) (by omega)
      have d3 := hl (s + 3) (by omega) (by omega)
      refine ⟨by omega, by omega, ?_, ?_, ?_, ?_, ?_⟩ <;> constructor <;> intro hh <;> omega
    · rw [show (s + 5 - s).toNat = 5 by omega, show jk_hv b s 5 = 32 * (32 * (32 * (32 * (32 * (0) + b (s + 0) - 96) + b (s + 1) - 96) + b (s + 2) - 96) + b (s + 3) - 96) + b (s + 4) - 96 from rfl] at h2
      have d0 := hl (s + 0) (by omega) (by omega)
      have d1 := hl (s + 1) (by omega) (by omega)
      have d2 := hl (s + 2) (by omega) (by omega)
      have d3 := hl (s + 3) (by omega) (by omega)
      have d4 := hl (s + 4) (by omega) (by omega)
      refine ⟨by omega, by omega, ?_, ?_, ?_, ?_, ?_⟩ <;> constructor <;> intro hh <;> omega
  · refine ⟨by omega, by omega, ?_, ?_, ?_, ?_, ?_⟩ <;> constructor <;> intro hh <;> exfalso <;> omega
def jk_f3 (σ σ' : jw_H) : Prop := (∀ o, o ≠ 103 → σ' o = σ o) ∧ ∀ j, j ≠ 8 → j ≠ 38 → j ≠ 39 → σ' 103 j = σ 103 j
theorem jk_f3_rf (σ : jw_H) : jk_f3 σ σ := ⟨fun _ _ => rfl, fun _ _ _ _ => rfl⟩
theorem jk_f3_up {σ σ' : jw_H} {j v : Int} (h : jk_f3 σ σ') (hj : j = 8 ∨ j = 38 ∨ j = 39) : jk_f3 σ (jw_up σ' 103 j v) := ⟨fun o ho => by rw [jw_up_out _ _ _ ho]; exact h.1 o ho, fun j' h1 h2 h3 => by rw [jw_up_ne _ (by omega)]; exact h.2 j' h1 h2 h3⟩
theorem jk_tr_f3 {σ σ' : jw_H} {b : Int → Int} (h : jk_tr σ b) (hf : jk_f3 σ σ') (h8 : 0 ≤ σ' 103 8 ∧ σ' 103 8 ≤ 100000) : jk_tr σ' b := by
  obtain ⟨h1, h2, h3⟩ := h
  unfold jk_tr
  rw [hf.2 9 (by omega) (by omega) (by omega), hf.1 107 (by omega)]
  exact ⟨h8, h2, h3⟩
theorem jk_small {n : Nat} {σ : jw_H} {x : Int} (hx : jw_rg x)  : jw_T (js_S n) 2 213 [.inl x] σ (fun r σ' => (r = some (.inl 1) ∧ σ' = σ ∧ (97 ≤ x ∧ x ≤ 122)) ∨ (r = some (.inl 0) ∧ σ' = σ ∧ ¬ (97 ≤ x ∧ x ≤ 122))) := by
  refine jw_T_of (D := 1) (M := mm_213) rfl (Nat.le_of_ble_eq_true rfl) (ls0 := [some (.inl x)]) rfl ?_ (by rintro _ _ (⟨rfl, -⟩ | ⟨rfl, -⟩) <;> rfl)
  have rx := hx
  unfold jw_rg at rx
  refine jw_W_n 3 (i' := 3) (ls' := [some (.inl x)]) (st' := [.inl 122, .inl 97, .inl x]) rfl ?_
  refine jw_W_call (as := [.inl x, .inl 97, .inl 122]) (rest := []) rfl rfl rfl rfl (Nat.le_of_ble_eq_true rfl) (.inl rfl) (jm_in (by unfold jw_rg; omega) (by unfold jw_rg; omega) (by unfold jw_rg; omega)) (by omega) ?_ rfl
  rintro r1 σz (⟨rfl, hs, q1⟩ | ⟨rfl, hs, q1⟩)
  · rw [hs]
    show jw_W (js_S n) _ md_213 4 [some (.inl x)] [.inl 1] σ _
    refine jw_W_ir rfl ?_
    exact .inl ⟨rfl, rfl, by omega⟩
  · rw [hs]
    show jw_W (js_S n) _ md_213 4 [some (.inl x)] [.inl 0] σ _
    refine jw_W_ir rfl ?_
    exact .inr ⟨rfl, rfl, by omega⟩
theorem jk_wordR_loop {n : Nat} {σ : jw_H} {b : Int → Int} {m s : Int} (hm : m = σ 103 9) (hs0 : 0 ≤ s) : ∀ (f : Nat) {τ : jw_H}, jk_f3 σ τ → jk_tr τ b → τ 103 39 = s → s ≤ τ 103 8 → τ 103 8 ≤ m → m ≤ τ 103 8 + f → (∀ j, s ≤ j → j < τ 103 8 → 97 ≤ b j ∧ b j ≤ 122) → jk_hq b s (τ 103 8) (τ 103 38) → jw_W (js_S n) 2 md_214 7 [some (.inr (.inr 103))] [] τ (fun r σ' => r = none ∧ jk_f3 σ σ' ∧ σ' 103 39 = s ∧ σ' 103 8 = (jk_we b m f (τ 103 8)) ∧ jk_hq b s (jk_we b m f (τ 103 8)) (σ' 103 38) ∧ (∀ j, s ≤ j → j < (jk_we b m f (τ 103 8)) → 97 ≤ b j ∧ b j ≤ 122) ∧ s ≤ (jk_we b m f (τ 103 8)) ∧ (jk_we b m f (τ 103 8)) ≤ m)
  | f, τ, hf3, ht, es, hsp, hpm, hf, hl, hh => by
    have hhr := jk_h_rg (b := b) (n := τ 103 9) (i := τ 103 8) ht.1.1 (fun j j0 j1 => (ht.2.2 j j0 j1).2.2)
    have hq0 := ht.1
    have hq1 := ht.2.1
    have em : τ 103 9 = m := by rw [hm]; exact hf3.2 9 (by omega) (by omega) (by omega)
    have hrg := jk_hash hsp hl hh
    have hr1 := hrg.1
    have hr2 := hrg.2.1
    have hN : ¬ (τ 103 8 < τ 103 9) → jk_h b (τ 103 9) (τ 103 8) = -1 := fun hh => by unfold jk_h; rw [if_neg hh]
    have hY : jk_h b (τ 103 9) (τ 103 8) ≠ -1 → τ 103 8 < τ 103 9 := fun hh => Classical.byContradiction (fun w => hh (hN w))
    have stop : ∀ {σ' : jw_H} {v : Int}, ¬ (97 ≤ jk_h b (τ 103 9) (τ 103 8) ∧ jk_h b (τ 103 9) (τ 103 8) ≤ 122) → jk_f3 σ σ' → σ' 103 39 = s → σ' 103 8 = τ 103 8 → v = σ' 103 38 → ((v = τ 103 38 ∧ τ 103 8 - s ≤ 5) ∨ (v = -1 ∧ ¬ (τ 103 8 - s ≤ 5))) → jk_f3 σ σ' ∧ σ' 103 39 = s ∧ σ' 103 8 = (jk_we b m f (τ 103 8)) ∧ jk_hq b s (jk_we b m f (τ 103 8)) (σ' 103 38) ∧ (∀ j, s ≤ j → j < (jk_we b m f (τ 103 8)) → 97 ≤ b j ∧ b j ≤ 122) ∧ s ≤ (jk_we b m f (τ 103 8)) ∧ (jk_we b m f (τ 103 8)) ≤ m := by
      intro σ' v hn g1 g2 g3 g4 g5
      have e : jk_we b m f (τ 103 8) = τ 103 8 := by
        rw [em] at hn
        match f with
        | 0 => rfl
        | f + 1 => exact if_neg hn
      rw [e]
      refine ⟨g1, g2, g3, ?_, hl, hsp, hpm⟩
      rw [← g4]
      rcases g5 with ⟨g5, g6⟩ | ⟨g5, g6⟩
      · rw [g5]
        exact hh
      · exact .inr ⟨by omega, g5⟩
    have go : ∀ v : Int, (97 ≤ jk_h b (τ 103 9) (τ 103 8) ∧ jk_h b (τ 103 9) (τ 103 8) ≤ 122) → ((τ 103 8 - s < 5 ∧ v = 32 * τ 103 38 + jk_h b (τ 103 9) (τ 103 8) - 97 + 1) ∨ (¬ (τ 103 8 - s < 5) ∧ v = -1)) → jw_W (js_S n) 2 md_214 7 [some (.inr (.inr 103))] [] (jw_up (jw_up τ 103 38 v) 103 8 (τ 103 8 + 1)) (fun r σ' => r = none ∧ jk_f3 σ σ' ∧ σ' 103 39 = s ∧ σ' 103 8 = (jk_we b m f (τ 103 8)) ∧ jk_hq b s (jk_we b m f (τ 103 8)) (σ' 103 38) ∧ (∀ j, s ≤ j → j < (jk_we b m f (τ 103 8)) → 97 ≤ b j ∧ b j ≤ 122) ∧ s ≤ (jk_we b m f (τ 103 8)) ∧ (jk_we b m f (τ 103 8)) ≤ m) := by
      intro v hy hv
      have hlt := hY (by omega)
      have hb : jk_h b (τ 103 9) (τ 103 8) = b (τ 103 8) := if_pos hlt
      match f, hf with
      | 0, hf => omega
      | f + 1, hf =>
        have e : jk_we b m (f + 1) (τ 103 8) = jk_we b m f (τ 103 8 + 1) := if_pos (by rw [← em]; exact hy)
        obtain ⟨υ, hυ⟩ : ∃ υ : jw_H, υ = jw_up (jw_up τ 103 38 v) 103 8 (τ 103 8 + 1) := ⟨_, rfl⟩
        rw [← hυ, e]
        have e0 : υ 103 8 = τ 103 8 + 1 := by rw [hυ, jw_up_eq]
        have e38 : υ 103 38 = v := by rw [hυ, jw_up_ne _ (by omega), jw_up_eq]
        have e39 : υ 103 39 = s := by rw [hυ, jw_up_ne _ (by omega), jw_up_ne _ (by omega)]; exact es
        have f3 : jk_f3 σ υ := by rw [hυ]; exact jk_f3_up (jk_f3_up hf3 (by omega)) (by omega)
        have e9 : υ 103 9 = m := by rw [f3.2 9 (by omega) (by omega) (by omega)]; exact hm.symm
        rw [← e0]
        refine jk_wordR_loop hm hs0 f f3 (jk_tr_f3 (σ := τ) ht ⟨fun o ho => by rw [hυ, jw_up_out _ _ _ ho, jw_up_out _ _ _ ho], fun j h1 h2 h3 => by rw [hυ, jw_up_ne _ (by omega), jw_up_ne _ (by omega)]⟩ (by omega)) e39 (by omega) (by omega) (by omega) ?_ ?_
        · intro j j0 j1
          by_cases hj : j < τ 103 8
          · exact hl j j0 hj
          · rw [show j = τ 103 8 by omega, ← hb]
            exact hy
        · rw [e0, e38]
          rcases hv with ⟨hv1, hv2⟩ | ⟨hv1, hv2⟩
          · refine .inl ⟨by omega, ?_⟩
            rcases hh with ⟨_, hh⟩ | ⟨hh, _⟩
            · obtain ⟨k, hk⟩ : ∃ k : Nat, τ 103 8 = s + k := ⟨(τ 103 8 - s).toNat, by omega⟩
              rw [show (τ 103 8 + 1 - s).toNat = k + 1 by omega]
              rw [show (τ 103 8 - s).toNat = k by omega] at hh
              have hst : jk_hv b s (k + 1) = 32 * jk_hv b s k + b (s + (k : Int)) - 96 := rfl
              rw [hst, ← hh, ← hk, ← hb]
              omega
            · omega
          · exact .inr ⟨by omega, hv2⟩
    refine jw_W_n 1 (i' := 8) (ls' := [some (.inr (.inr 103))]) (st' := [.inr (.inr 103)]) rfl ?_
    refine jw_W_call (as := [.inr (.inr 103)]) (rest := []) rfl rfl rfl rfl (Nat.le_of_ble_eq_true rfl) (.inr rfl) (jk_hereR ht) (by omega) ?_ rfl
    rintro r1 σz ⟨rfl, hs⟩
    rw [hs]
    show jw_W (js_S n) _ md_214 9 [some (.inr (.inr 103))] [.inl (jk_h b (τ 103 9) (τ 103 8))] τ _
    refine jw_W_call (as := [.inl (jk_h b (τ 103 9) (τ 103 8))]) (rest := []) rfl rfl rfl rfl (Nat.le_of_ble_eq_true rfl) (.inl rfl) (jk_small (by unfold jw_rg; omega)) (by omega) ?_ rfl
    rintro r1 σz (⟨rfl, hs, q2⟩ | ⟨rfl, hs, q2⟩)
    · rw [hs]
      show jw_W (js_S n) _ md_214 10 [some (.inr (.inr 103))] [.inl 1] τ _
      refine jw_W_if rfl (by unfold jw_rg; omega) (fun hc1 => ?_) (fun hc1 => ?_)
      · exact absurd hc1 (show ¬ ((1 : Int) = 0) by omega)
      · clear hc1
        refine jw_W_n 2 (i' := 13) (ls' := [some (.inr (.inr 103))]) (st' := [.inr (.inr 103), .inr (.inr 103)]) rfl ?_
        refine jw_W_gf rfl rfl rfl ?_
        show jw_W (js_S n) _ md_214 14 [some (.inr (.inr 103))] [.inl (τ 103 8), .inr (.inr 103)] τ _
        refine jw_W_n 1 (i' := 15) (ls' := [some (.inr (.inr 103))]) (st' := [.inr (.inr 103), .inl (τ 103 8), .inr (.inr 103)]) rfl ?_
        refine jw_W_gf rfl rfl rfl ?_
        show jw_W (js_S n) _ md_214 16 [some (.inr (.inr 103))] [.inl (τ 103 39), .inl (τ 103 8), .inr (.inr 103)] τ _
        refine jw_W_n 2 (i' := 18) (ls' := [some (.inr (.inr 103))]) (st' := [.inl 5, .inl (τ 103 8 - (τ 103 39)), .inr (.inr 103)]) rfl ?_
        refine jw_W_ic rfl (by unfold jw_rg; omega) (by unfold jw_rg; omega) (fun hc2 => ?_) (fun hc2 => ?_)
        · have hc2 : (τ 103 8 - (τ 103 39)) ≥ 5 := hc2
          refine jw_W_n 1 (i' := 32) (ls' := [some (.inr (.inr 103))]) (st' := [.inl ((-1)), .inr (.inr 103)]) rfl ?_
          refine jw_W_pf (a := (-1)) rfl (by omega) rfl rfl rfl rfl rfl ?_
          refine jw_W_n 2 (i' := 35) (ls' := [some (.inr (.inr 103))]) (st' := [.inr (.inr 103), .inr (.inr 103)]) rfl ?_
          refine jw_W_gf rfl rfl rfl ?_
          show jw_W (js_S n) _ md_214 36 [some (.inr (.inr 103))] [.inl (τ 103 8), .inr (.inr 103)] ((jw_up τ 103 38 ((-1)))) _
          refine jw_W_n 2 (i' := 38) (ls' := [some (.inr (.inr 103))]) (st' := [.inl (τ 103 8 + 1), .inr (.inr 103)]) rfl ?_
          refine jw_W_pf (a := τ 103 8 + 1) rfl (by omega) rfl rfl rfl rfl rfl ?_
          refine jw_W_n 1 (i' := 7) (ls' := [some (.inr (.inr 103))]) (st' := []) rfl ?_
          exact go _ (by omega) (by omega)
        · have hc2 : ¬ ((τ 103 8 - (τ 103 39)) ≥ 5) := hc2
          refine jw_W_n 2 (i' := 21) (ls' := [some (.inr (.inr 103))]) (st' := [.inr (.inr 103), .inl 32, .inr (.inr 103)]) rfl ?_
          refine jw_W_gf rfl rfl rfl ?_
          show jw_W (js_S n) _ md_214 22 [some (.inr (.inr 103))] [.inl (τ 103 38), .inl 32, .inr (.inr 103)] τ _
          refine jw_W_n 2 (i' := 24) (ls' := [some (.inr (.inr 103))]) (st' := [.inr (.inr 103), .inl (32 * (τ 103 38)), .inr (.inr 103)]) rfl ?_
          refine jw_W_call (as := [.inr (.inr 103)]) (rest := [.inl (32 * (τ 103 38)), .inr (.inr 103)]) rfl rfl rfl rfl (Nat.le_of_ble_eq_true rfl) (.inr rfl) (jk_hereR ht) (by omega) ?_ rfl
          rintro r1 σz ⟨rfl, hs⟩
          rw [hs]
          show jw_W (js_S n) _ md_214 25 [some (.inr (.inr 103))] [.inl (jk_h b (τ 103 9) (τ 103 8)), .inl (32 * (τ 103 38)), .inr (.inr 103)] τ _
          refine jw_W_n 6 (i' := 32) (ls' := [some (.inr (.inr 103))]) (st' := [.inl ((((32 * (τ 103 38)) + (jk_h b (τ 103 9) (τ 103 8))) - 97) + 1), .inr (.inr 103)]) rfl ?_
          refine jw_W_pf (a := (((32 * (τ 103 38)) + (jk_h b (τ 103 9) (τ 103 8))) - 97) + 1) rfl (by omega) rfl rfl rfl rfl rfl ?_
          refine jw_W_n 2 (i' := 35) (ls' := [some (.inr (.inr 103))]) (st' := [.inr (.inr 103), .inr (.inr 103)]) rfl ?_
          refine jw_W_gf rfl rfl rfl ?_
          show jw_W (js_S n) _ md_214 36 [some (.inr (.inr 103))] [.inl (τ 103 8), .inr (.inr 103)] ((jw_up τ 103 38 ((((32 * (τ 103 38)) + (jk_h b (τ 103 9) (τ 103 8))) - 97) + 1))) _
          refine jw_W_n 2 (i' := 38) (ls' := [some (.inr (.inr 103))]) (st' := [.inl (τ 103 8 + 1), .inr (.inr 103)]) rfl ?_
          refine jw_W_pf (a := τ 103 8 + 1) rfl (by omega) rfl rfl rfl rfl rfl ?_
          refine jw_W_n 1 (i' := 7) (ls' := [some (.inr (.inr 103))]) (st' := []) rfl ?_
          exact go _ (by omega) (by omega)
    · rw [hs]
      show jw_W (js_S n) _ md_214 10 [some (.inr (.inr 103))] [.inl 0] τ _
      refine jw_W_if rfl (by unfold jw_rg; omega) (fun hc3 => ?_) (fun hc3 => ?_)
      · clear hc3
        refine jw_W_n 1 (i' := 41) (ls' := [some (.inr (.inr 103))]) (st' := [.inr (.inr 103)]) rfl ?_
        refine jw_W_gf rfl rfl rfl ?_
        show jw_W (js_S n) _ md_214 42 [some (.inr (.inr 103))] [.inl (τ 103 8)] τ _
        refine jw_W_n 1 (i' := 43) (ls' := [some (.inr (.inr 103))]) (st' := [.inr (.inr 103), .inl (τ 103 8)]) rfl ?_
        refine jw_W_gf rfl rfl rfl ?_
        show jw_W (js_S n) _ md_214 44 [some (.inr (.inr 103))] [.inl (τ 103 39), .inl (τ 103 8)] τ _
        refine jw_W_n 2 (i' := 46) (ls' := [some (.inr (.inr 103))]) (st' := [.inl 5, .inl (τ 103 8 - (τ 103 39))]) rfl ?_
        refine jw_W_ic rfl (by unfold jw_rg; omega) (by unfold jw_rg; omega) (fun hc4 => ?_) (fun hc4 => ?_)
        · have hc4 : (τ 103 8 - (τ 103 39)) ≤ 5 := hc4
          refine jw_W_re rfl ?_
          exact ⟨rfl, stop (by omega) (by assumption) (by assumption) rfl rfl (.inl ⟨rfl, by omega⟩)⟩
        · have hc4 : ¬ ((τ 103 8 - (τ 103 39)) ≤ 5) := hc4
          refine jw_W_n 2 (i' := 49) (ls' := [some (.inr (.inr 103))]) (st' := [.inl ((-1)), .inr (.inr 103)]) rfl ?_
          refine jw_W_pf (a := (-1)) rfl (by omega) rfl rfl rfl rfl rfl ?_
          refine jw_W_re rfl ?_
          exact ⟨rfl, stop (by omega) (jk_f3_up hf3 (by omega)) ((jw_up_ne _ (by omega)).trans es) (jw_up_ne _ (by omega)) (jw_up_eq _ _ _ _).symm (.inr ⟨rfl, by omega⟩)⟩
      · exact absurd hc3 (show ¬ ¬ ((0 : Int) = 0) by omega)
theorem jk_readsWord {n : Nat} {σ : jw_H} {b : Int → Int} (ht : jk_tr σ b) (h2 : σ 103 8 ≤ σ 103 9)  : jw_T (js_S n) 3 214 [.inr (.inr 103)] σ (fun r σ' => r = none ∧ jk_f3 σ σ' ∧ σ' 103 39 = σ 103 8 ∧ σ' 103 8 = (jk_we b (σ 103 9) 300 (σ 103 8)) ∧ jk_hq b (σ 103 8) (jk_we b (σ 103 9) 300 (σ 103 8)) (σ' 103 38) ∧ (∀ j, σ 103 8 ≤ j → j < (jk_we b (σ 103 9) 300 (σ 103 8)) → 97 ≤ b j ∧ b j ≤ 122) ∧ σ 103 8 ≤ (jk_we b (σ 103 9) 300 (σ 103 8)) ∧ (jk_we b (σ 103 9) 300 (σ 103 8)) ≤ σ 103 9) := by
  refine jw_T_of (D := 2) (M := mm_214) rfl (Nat.le_of_ble_eq_true rfl) (ls0 := [some (.inr (.inr 103))]) rfl ?_ (by rintro _ _ ⟨rfl, -⟩; rfl)
  have hq0 := ht.1
  refine jw_W_n 2 (i' := 2) (ls' := [some (.inr (.inr 103))]) (st' := [.inr (.inr 103), .inr (.inr 103)]) rfl ?_
  refine jw_W_gf rfl rfl rfl ?_
  show jw_W (js_S n) _ md_214 3 [some (.inr (.inr 103))] [.inl (σ 103 8), .inr (.inr 103)] σ _
  refine jw_W_pf (a := σ 103 8) rfl (by omega) rfl rfl rfl rfl rfl ?_
  refine jw_W_n 2 (i' := 6) (ls' := [some (.inr (.inr 103))]) (st' := [.inl 0, .inr (.inr 103)]) rfl ?_
  refine jw_W_pf (a := 0) rfl (by omega) rfl rfl rfl rfl rfl ?_
  obtain ⟨τ, hτ⟩ : ∃ τ : jw_H, τ = jw_up (jw_up σ 103 39 (σ 103 8)) 103 38 0 := ⟨_, rfl⟩
  show jw_W (js_S n) _ _ _ _ _ (jw_up (jw_up σ 103 39 (σ 103 8)) 103 38 0) _
  rw [← hτ]
  have f3 : jk_f3 σ τ := by rw [hτ]; exact jk_f3_up (jk_f3_up (jk_f3_rf σ) (by omega)) (by omega)
  have e8 : τ 103 8 = σ 103 8 := by rw [hτ, jw_up_ne _ (by omega), jw_up_ne _ (by omega)]
  have e38 : τ 103 38 = 0 := by rw [hτ, jw_up_eq]
  have e39 : τ 103 39 = σ 103 8 := by rw [hτ, jw_up_ne _ (by omega), jw_up_eq]
  have hw := jk_wordR_loop (n := n) (σ := σ) (b := b) (m := σ 103 9) (s := σ 103 8) rfl ht.1.1 300 f3 (jk_tr_f3 ht f3 (by omega)) e39 (by omega) (by omega) (by have := ht.2.1; omega) (fun j j0 j1 => by omega) (.inl ⟨by omega, by rw [e8, e38, Int.sub_self]; rfl⟩)
  rw [e8] at hw
  exact hw

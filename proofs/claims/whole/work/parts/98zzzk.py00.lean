/-! ===== the lines, the reference: wish, keep ===== -/
/-- what reading a problem's text changes of the reference -/
def jk_fm (σ σ' : jw_H) : Prop := (∀ c, c ≠ 103 → c ≠ 121 → c ≠ 122 → c ≠ 123 → c ≠ 124 → σ' c = σ c) ∧ ∀ j, j ≠ 8 → j ≠ 10 → j ≠ 11 → j ≠ 34 → j ≠ 35 → j ≠ 36 → j ≠ 37 → j ≠ 38 → j ≠ 39 → σ' 103 j = σ 103 j
theorem jk_fm_rf (σ : jw_H) : jk_fm σ σ := ⟨fun _ _ _ _ _ _ => rfl, fun _ _ _ _ _ _ _ _ _ _ => rfl⟩
theorem jk_fm_tr {σ σ' σ'' : jw_H} (h : jk_fm σ σ') (k : jk_fm σ' σ'') : jk_fm σ σ'' := ⟨fun c h1 h2 h3 h4 h5 => (k.1 c h1 h2 h3 h4 h5).trans (h.1 c h1 h2 h3 h4 h5), fun j h1 h2 h3 h4 h5 h6 h7 h8 h9 => (k.2 j h1 h2 h3 h4 h5 h6 h7 h8 h9).trans (h.2 j h1 h2 h3 h4 h5 h6 h7 h8 h9)⟩
theorem jk_fm_up {σ σ' : jw_H} {o : Nat} {j v : Int} (h : jk_fm σ σ') (hj : (o = 103 ∧ (j = 8 ∨ j = 10 ∨ j = 11 ∨ (34 ≤ j ∧ j ≤ 39))) ∨ (121 ≤ o ∧ o ≤ 124)) : jk_fm σ (jw_up σ' o j v) := by
  refine ⟨fun c h1 h2 h3 h4 h5 => ?_, fun k h1 h2 h3 h4 h5 h6 h7 h8 h9 => ?_⟩
  · rw [jw_up_out _ _ _ (by omega)]
    exact h.1 c h1 h2 h3 h4 h5
  · rcases hj with hj | hj
    · rw [hj.1, jw_up_ne _ (by omega)]
      exact h.2 k h1 h2 h3 h4 h5 h6 h7 h8 h9
    · rw [jw_up_out _ _ _ (by omega)]
      exact h.2 k h1 h2 h3 h4 h5 h6 h7 h8 h9
theorem jk_fm_ft {σ σ' : jw_H} (h : jk_ft σ σ') : jk_fm σ σ' := ⟨fun c h1 _ _ _ h5 => h.1 c h1 h5, fun j h1 h2 h3 _ _ _ _ _ _ => h.2 j h1 h2 h3⟩
theorem jk_fm_f8 {σ σ' : jw_H} (h : jk_f8 σ σ') : jk_fm σ σ' := ⟨fun c h1 _ _ _ _ => h.1 c h1, fun j h1 h2 h3 _ _ _ _ _ _ => h.2 j h1 h2 h3⟩
theorem jk_fm_f3 {σ σ' : jw_H} (h : jk_f3 σ σ') : jk_fm σ σ' := ⟨fun c h1 _ _ _ _ => h.1 c h1, fun j h1 _ _ _ _ _ _ h8 h9 => h.2 j h1 h8 h9⟩
theorem jk_tr_fm {σ σ' : jw_H} {b : Int → Int} (h : jk_tr σ b) (hf : jk_fm σ σ') (h8 : 0 ≤ σ' 103 8 ∧ σ' 103 8 ≤ 100000) : jk_tr σ' b := by
  obtain ⟨h1, h2, h3⟩ := h
  unfold jk_tr
  rw [hf.2 9 (by omega) (by omega) (by omega) (by omega) (by omega) (by omega) (by omega) (by omega) (by omega), hf.1 107 (by omega) (by omega) (by omega) (by omega) (by omega)]
  exact ⟨h8, h2, h3⟩
theorem jk_fm9 {σ σ' : jw_H} (hf : jk_fm σ σ') : σ' 103 9 = σ 103 9 := hf.2 9 (by omega) (by omega) (by omega) (by omega) (by omega) (by omega) (by omega) (by omega) (by omega)
/-- what holds while the reference reads -/
def jk_my (b : Int → Int) (m : Int) (σ : jw_H) (q : Int) : Prop := jk_tr σ b ∧ σ 103 9 = m ∧ (0 ≤ σ 103 8 ∧ σ 103 8 ≤ m) ∧ (m ≤ 260 ∧ 0 ≤ q ∧ q ≤ 3) ∧ (0 ≤ σ 103 35 ∧ σ 103 35 ≤ 3) ∧ (0 ≤ σ 103 36 ∧ σ 103 36 ≤ 4) ∧ (0 ≤ σ 103 37 ∧ σ 103 37 ≤ 7)
def jk_mx (b : Int → Int) (m : Int) (σ : jw_H) : Prop := jk_my b m σ (σ 103 34)
/-- how a line ends -/
def jk_mp (b : Int → Int) (m : Int) (σ : jw_H) (P : jw_H) (r : Option jw_V) (σ' : jw_H) : Prop := jk_fm σ σ' ∧ ((r = some (.inl 0) ∧ P 0 0 ≠ 0 ∧ σ' 103 10 = P 0 0) ∨ (r = some (.inl 1) ∧ jk_ml σ' P ∧ jk_mx b m σ'))
theorem jk_mp_bad {b : Int → Int} {m : Int} {σ σ' : jw_H} {F : Int} (hf : jk_fm σ σ') (hF : F ≠ 0) (h : σ' 103 10 = F) : jk_mp b m σ (jk_bad F) (some (.inl 0)) σ' := ⟨hf, .inl ⟨rfl, hF, h⟩⟩
theorem jk_readsTwoX {n : Nat} {σ : jw_H} {b : Int → Int} {m : Int} (ht : jk_tr σ b) (hm : σ 103 9 = m) (hp9 : σ 103 8 ≤ 90000) : jw_T (js_S n) 3 218 [.inr (.inr 103)] σ (fun r σ' => (r = some (.inl 0) ∧ (jk_nu b m (σ 103 8)).1 ≠ 0 ∧ jk_f8 σ σ' ∧ σ' 103 10 = (jk_nu b m (σ 103 8)).1) ∨ (r = some (.inl 1) ∧ (jk_nu b m (σ 103 8)).1 = 0 ∧ jk_f8 σ σ' ∧ σ' 103 11 = (jk_nu b m (σ 103 8)).2.1 ∧ σ' 103 8 = (jk_nu b m (σ 103 8)).2.2 ∧ (0 ≤ σ' 103 11 ∧ σ' 103 11 ≤ 99))) := by
  have hq0 := ht.1
  refine jw_T_mono (jk_readsTwo ht hp9) (Nat.le_refl _) ?_
  rw [hm]
  rintro r σ' (⟨hr, h1, hf, hv⟩ | ⟨hr, h1, h2, hf, hv, h8⟩ | ⟨hr, h1, h2, h3, hf, hv, h8⟩ | ⟨hr, h1, h2, h3, hf, hv⟩)
  · have e := jk_n2_a h1
    have hn : (jk_n2 b m (σ 103 8)).1 ≠ 0 := by rw [e]; show -1000 * 1 - σ 103 8 ≠ 0; omega
    rw [jk_nu_1 hn, e]
    exact .inl ⟨hr, by show -1000 * 1 - σ 103 8 ≠ 0; omega, hf, hv⟩
  · have e := jk_n2_b h1 h2
    rw [jk_nu_3 (by rw [e]; exact h2), e]
    unfold jk_dg at h1
    exact .inr ⟨hr, rfl, hf, hv, h8, by omega⟩
  · have e := jk_n2_c h1 h2
    rw [show σ 103 8 + 1 + 1 = σ 103 8 + 2 by omega] at h3
    rw [jk_nu_3 (by rw [e]; exact h3), e]
    unfold jk_dg at h1 h2
    exact .inr ⟨hr, rfl, hf, hv, h8, by omega⟩
  · have e := jk_n2_c h1 h2
    rw [show σ 103 8 + 1 + 1 = σ 103 8 + 2 by omega] at h3
    rw [jk_nu_2 (by rw [e]) (by rw [e]; exact h3), e]
    exact .inl ⟨hr, by show -1000 * 2 - (σ 103 8 + 2) ≠ 0; omega, hf, hv⟩
theorem jk_readsWish {n : Nat} {σ : jw_H} {b : Int → Int} {m : Int} {s : jw_H} (hm : jk_mx b m σ) (hl : jk_ml σ s) {sg : Int} (h3 : σ 103 35 < 3)  : jw_T (js_S n) 5 219 [.inr (.inr 103), .inl sg] σ (fun r σ' => jk_mp b m σ (jk_pw b m sg s (s 0 1)) r σ') := by
  refine jw_T_of (D := 4) (M := mm_219) rfl (Nat.le_of_ble_eq_true rfl) (ls0 := [some (.inr (.inr 103)), some (.inl sg), none]) rfl ?_ (by rintro _ _ ⟨-, ⟨rfl, -⟩ | ⟨rfl, -⟩⟩ <;> rfl)
  obtain ⟨ht, em, h8, h34, h35, h36, h37⟩ := hm
  have hl0 := hl
  obtain ⟨l0, l8, l34, l35, l36, l37, lW, lK, lB⟩ := hl
  refine jw_W_n 1 (i' := 1) (ls' := [some (.inr (.inr 103)), some (.inl sg), none]) (st' := [.inr (.inr 103)]) rfl ?_
  refine jw_W_call (as := [.inr (.inr 103)]) (rest := []) rfl rfl rfl rfl (Nat.le_of_ble_eq_true rfl) (.inr rfl) (jk_readsSum ht (by omega) (by omega)) (by omega) ?_ rfl
  rintro r1 σ0 (⟨rfl, hS, hf, h10⟩ | ⟨rfl, hS, hf, h18, hrow⟩)
  · rename jw_H => σ0
    rw [em, l34, l8] at hS h10
    show jw_W (js_S n) _ md_219 2 [some (.inr (.inr 103)), some (.inl sg), none] [.inl 0] σ0 _
    refine jw_W_if rfl (by unfold jw_rg; omega) (fun hc1 => ?_) (fun hc1 => ?_)
    · exact absurd hc1 (show ¬ ((0 : Int) ≠ 0) by omega)
    · clear hc1
      refine jw_W_n 1 (i' := 4) (ls' := [some (.inr (.inr 103)), some (.inl sg), none]) (st' := [.inl 0]) rfl ?_
      refine jw_W_ir rfl ?_
      rw [jk_pw_1 hS]
      exact jk_mp_bad (jk_fm_ft hf) hS h10
  · rename jw_H => σ1
    rw [em, l34, l8] at hS h18 hrow
    have hfm := jk_fm_ft hf
    have e35 : σ1 103 35 = σ 103 35 := hf.2 35 (by omega) (by omega) (by omega)
    have e36 : σ1 103 36 = σ 103 36 := hf.2 36 (by omega) (by omega) (by omega)
    have hrk := jk_rok_sm (b := b) (m := m) (q := s 0 2) (i := s 0 1) (by omega) hS
    show jw_W (js_S n) _ md_219 2 [some (.inr (.inr 103)), some (.inl sg), none] [.inl 1] σ1 _
    refine jw_W_if rfl (by unfold jw_rg; omega) (fun hc2 => ?_) (fun hc2 => ?_)
    · clear hc2
      refine jw_W_n 4 (i' := 9) (ls' := [some (.inr (.inr 103)), some (.inl sg), some (.inl 0)]) (st' := [.inl 3, .inl 0]) rfl ?_
      refine jw_W_ic rfl (by unfold jw_rg; omega) (by unfold jw_rg; omega) (fun hc3 => ?_) (fun hc3 => ?_)
      · exact absurd hc3 (show ¬ ((0 : Int) ≥ 3) by omega)
      · clear hc3
        refine jw_W_n 1 (i' := 11) (ls' := [some (.inr (.inr 103)), some (.inl sg), some (.inl 0)]) (st' := [.inr (.inr 103)]) rfl ?_
        refine jw_W_gf rfl rfl rfl ?_
        show jw_W (js_S n) _ md_219 12 [some (.inr (.inr 103)), some (.inl sg), some (.inl 0)] [.inr (.inr 121)] σ1 _
        refine jw_W_n 2 (i' := 14) (ls' := [some (.inr (.inr 103)), some (.inl sg), some (.inl 0)]) (st' := [.inr (.inr 103), .inl 3, .inr (.inr 121)]) rfl ?_
        refine jw_W_gf rfl rfl rfl ?_
        show jw_W (js_S n) _ md_219 15 [some (.inr (.inr 103)), some (.inl sg), some (.inl 0)] [.inl (σ1 103 35), .inl 3, .inr (.inr 121)] σ1 _
        refine jw_W_n 5 (i' := 20) (ls' := [some (.inr (.inr 103)), some (.inl sg), some (.inl 0)]) (st' := [.inr (.inr 103), .inl sg, .inl ((3 * (σ1 103 35)) + 0), .inr (.inr 121)]) rfl ?_
        refine jw_W_gf rfl rfl rfl ?_
        show jw_W (js_S n) _ md_219 21 [some (.inr (.inr 103)), some (.inl sg), some (.inl 0)] [.inr (.inr 124), .inl sg, .inl ((3 * (σ1 103 35)) + 0), .inr (.inr 121)] σ1 _
        refine jw_W_n 1 (i' := 22) (ls' := [some (.inr (.inr 103)), some (.inl sg), some (.inl 0)]) (st' := [.inl 0, .inr (.inr 124), .inl sg, .inl ((3 * (σ1 103 35)) + 0), .inr (.inr 121)]) rfl ?_
        refine jw_W_ia rfl rfl (by omega) (by omega) (by omega) ?_
        show jw_W (js_S n) _ md_219 23 [some (.inr (.inr 103)), some (.inl sg), some (.inl 0)] [.inl (σ1 124 0), .inl sg, .inl ((3 * (σ1 103 35)) + 0), .inr (.inr 121)] σ1 _
        refine jw_W_n 1 (i' := 24) (ls' := [some (.inr (.inr 103)), some (.inl sg), some (.inl 0)]) (st' := [.inl (sg * (σ1 124 0)), .inl ((3 * (σ1 103 35)) + 0), .inr (.inr 121)]) rfl ?_
        refine jw_W_is rfl (by omega) rfl (by omega) (by omega) (by omega) ?_
        refine jw_W_n 4 (i' := 9) (ls' := [some (.inr (.inr 103)), some (.inl sg), some (.inl 1)]) (st' := [.inl 3, .inl 1]) rfl ?_
        refine jw_W_ic rfl (by unfold jw_rg; omega) (by unfold jw_rg; omega) (fun hc4 => ?_) (fun hc4 => ?_)
        · exact absurd hc4 (show ¬ ((1 : Int) ≥ 3) by omega)
        · clear hc4
          refine jw_W_n 1 (i' := 11) (ls' := [some (.inr (.inr 103)), some (.inl sg), some (.inl 1)]) (st' := [.inr (.inr 103)]) rfl ?_
          refine jw_W_gf rfl rfl rfl ?_
          show jw_W (js_S n) _ md_219 12 [some (.inr (.inr 103)), some (.inl sg), some (.inl 1)] [.inr (.inr 121)] ((jw_up σ1 121 ((3 * (σ1 103 35)) + 0) (sg * (σ1 124 0)))) _
          refine jw_W_n 2 (i' := 14) (ls' := [some (.inr (.inr 103)), some (.inl sg), some (.inl 1)]) (st' := [.inr (.inr 103), .inl 3, .inr (.inr 121)]) rfl ?_
          refine jw_W_gf rfl rfl rfl ?_
          show jw_W (js_S n) _ md_219 15 [some (.inr (.inr 103)), some (.inl sg), some (.inl 1)] [.inl (σ1 103 35), .inl 3, .inr (.inr 121)] ((jw_up σ1 121 ((3 * (σ1 103 35)) + 0) (sg * (σ1 124 0)))) _
          refine jw_W_n 5 (i' := 20) (ls' := [some (.inr (.inr 103)), some (.inl sg), some (.inl 1)]) (st' := [.inr (.inr 103), .inl sg, .inl ((3 * (σ1 103 35)) + 1), .inr (.inr 121)]) rfl ?_
          refine jw_W_gf rfl rfl rfl ?_
          show jw_W (js_S n) _ md_219 21 [some (.inr (.inr 103)), some (.inl sg), some (.inl 1)] [.inr (.inr 124), .inl sg, .inl ((3 * (σ1 103 35)) + 1), .inr (.inr 121)] ((jw_up σ1 121 ((3 * (σ1 103 35)) + 0) (sg * (σ1 124 0)))) _
          refine jw_W_n 1 (i' := 22) (ls' := [some (.inr (.inr 103)), some (.inl sg), some (.inl 1)]) (st' := [.inl 1, .inr (.inr 124), .inl sg, .inl ((3 * (σ1 103 35)) + 1), .inr (.inr 121)]) rfl ?_
          refine jw_W_ia rfl rfl (by omega) (by omega) (by omega) ?_
          show jw_W (js_S n) _ md_219 23 [some (.inr (.inr 103)), some (.inl sg), some (.inl 1)] [.inl (σ1 124 1), .inl sg, .inl ((3 * (σ1 103 35)) + 1), .inr (.inr 121)] ((jw_up σ1 121 ((3 * (σ1 103 35)) + 0) (sg * (σ1 124 0)))) _
          refine jw_W_n 1 (i' := 24) (ls' := [some (.inr (.inr 103)), some (.inl sg), some (.inl 1)]) (st' := [.inl (sg * (σ1 124 1)), .inl ((3 * (σ1 103 35)) + 1), .inr (.inr 121)]) rfl ?_
          refine jw_W_is rfl (by omega) rfl (by omega) (by omega) (by omega) ?_
          refine jw_W_n 4 (i' := 9) (ls' := [some (.inr (.inr 103)), some (.inl sg), some (.inl 2)]) (st' := [.inl 3, .inl 2]) rfl ?_
          refine jw_W_ic rfl (by unfold jw_rg; omega) (by unfold jw_rg; omega) (fun hc5 => ?_) (fun hc5 => ?_)
          · exact absurd hc5 (show ¬ ((2 : Int) ≥ 3) by omega)
          · clear hc5
            refine jw_W_n 1 (i' := 11) (ls' := [some (.inr (.inr 103)), some (.inl sg), some (.inl 2)]) (st' := [.inr (.inr 103)]) rfl ?_
            refine jw_W_gf rfl rfl rfl ?_
            show jw_W (js_S n) _ md_219 12 [some (.inr (.inr 103)), some (.inl sg), some (.inl 2)] [.inr (.inr 121)] ((jw_up (jw_up σ1 121 ((3 * (σ1 103 35)) + 0) (sg * (σ1 124 0))) 121 ((3 * (σ1 103 35)) + 1) (sg * (σ1 124 1)))) _
            refine jw_W_n 2 (i' := 14) (ls' := [some (.inr (.inr 103)), some (.inl sg), some (.inl 2)]) (st' := [.inr (.inr 103), .inl 3, .inr (.inr 121)]) rfl ?_
            refine jw_W_gf rfl rfl rfl ?_
            show jw_W (js_S n) _ md_219 15 [some (.inr (.inr 103)), some (.inl sg), some (.inl 2)] [.inl (σ1 103 35), .inl 3, .inr (.inr 121)] ((jw_up (jw_up σ1 121 ((3 * (σ1 103 35)) + 0) (sg * (σ1 124 0))) 121 ((3 * (σ1 103 35)) + 1) (sg * (σ1 124 1)))) _
            refine jw_W_n 5 (i' := 20) (ls' := [some (.inr (.inr 103)), some (.inl sg), some (.inl 2)]) (st' := [.inr (.inr 103), .inl sg, .inl ((3 * (σ1 103 35)) + 2), .inr (.inr 121)]) rfl ?_
            refine jw_W_gf rfl rfl rfl ?_
            show jw_W (js_S n) _ md_219 21 [some (.inr (.inr 103)), some (.inl sg), some (.inl 2)] [.inr (.inr 124), .inl sg, .inl ((3 * (σ1 103 35)) + 2), .inr (.inr 121)] ((jw_up (jw_up σ1 121 ((3 * (σ1 103 35)) + 0) (sg * (σ1 124 0))) 121 ((3 * (σ1 103 35)) + 1) (sg * (σ1 124 1)))) _
            refine jw_W_n 1 (i' := 22) (ls' := [some (.inr (.inr 103)), some (.inl sg), some (.inl 2)]) (st' := [.inl 2, .inr (.inr 124), .inl sg, .inl ((3 * (σ1 103 35)) + 2), .inr (.inr 121)]) rfl ?_
            refine jw_W_ia rfl rfl (by omega) (by omega) (by omega) ?_
            show jw_W (js_S n) _ md_219 23 [some (.inr (.inr 103)), some (.inl sg), some (.inl 2)] [.inl (σ1 124 2), .inl sg, .inl ((3 * (σ1 103 35)) + 2), .inr (.inr 121)] ((jw_up (jw_up σ1 121 ((3 * (σ1 103 35)) + 0) (sg * (σ1 124 0))) 121 ((3 * (σ1 103 35)) + 1) (sg * (σ1 124 1)))) _
            refine jw_W_n 1 (i' := 24) (ls' := [some (.inr (.inr 103)), some (.inl sg), some (.inl 2)]) (st' := [.inl (sg * (σ1 124 2)), .inl ((3 * (σ1 103 35)) + 2), .inr (.inr 121)]) rfl ?_
            refine jw_W_is rfl (by omega) rfl (by omega) (by omega) (by omega) ?_
            refine jw_W_n 4 (i' := 9) (ls' := [some (.inr (.inr 103)), some (.inl sg), some (.inl 3)]) (st' := [.inl 3, .inl 3]) rfl ?_
            refine jw_W_ic rfl (by unfold jw_rg; omega) (by unfold jw_rg; omega) (fun hc6 => ?_) (fun hc6 => ?_)
            · clear hc6
              refine jw_W_n 2 (i' := 29) (ls' := [some (.inr (.inr 103)), some (.inl sg), some (.inl 3)]) (st' := [.inr (.inr 103), .inr (.inr 103)]) rfl ?_
              refine jw_W_gf rfl rfl rfl ?_
              show jw_W (js_S n) _ md_219 30 [some (.inr (.inr 103)), some (.inl sg), some (.inl 3)] [.inl (σ1 103 35), .inr (.inr 103)] ((jw_up (jw_up (jw_up σ1 121 ((3 * (σ1 103 35)) + 0) (sg * (σ1 124 0))) 121 ((3 * (σ1 103 35)) + 1) (sg * (σ1 124 1))) 121 ((3 * (σ1 103 35)) + 2) (sg * (σ1 124 2)))) _
              refine jw_W_n 2 (i' := 32) (ls' := [some (.inr (.inr 103)), some (.inl sg), some (.inl 3)]) (st' := [.inl (σ1 103 35 + 1), .inr (.inr 103)]) rfl ?_
              refine jw_W_pf (a := σ1 103 35 + 1) rfl (by omega) rfl rfl rfl rfl rfl ?_
              refine jw_W_n 1 (i' := 34) (ls' := [some (.inr (.inr 103)), some (.inl sg), some (.inl 3)]) (st' := [.inl 1]) rfl ?_
              refine jw_W_ir rfl ?_
              obtain ⟨σ2, hs2⟩ : ∃ τ : jw_H, τ = jw_up (jw_up (jw_up (jw_up σ1 121 ((3 * (σ1 103 35)) + 0) (sg * (σ1 124 0))) 121 ((3 * (σ1 103 35)) + 1) (sg * (σ1 124 1))) 121 ((3 * (σ1 103 35)) + 2) (sg * (σ1 124 2))) 103 35 (σ1 103 35 + 1) := ⟨_, rfl⟩
              show jk_mp b m σ _ _ (jw_up (jw_up (jw_up (jw_up σ1 121 ((3 * (σ1 103 35)) + 0) (sg * (σ1 124 0))) 121 ((3 * (σ1 103 35)) + 1) (sg * (σ1 124 1))) 121 ((3 * (σ1 103 35)) + 2) (sg * (σ1 124 2))) 103 35 (σ1 103 35 + 1))
              rw [← hs2]
              have f2 : jk_fm σ σ2 := by rw [hs2]; exact jk_fm_up (jk_fm_up (jk_fm_up (jk_fm_up hfm (by omega)) (by omega)) (by omega)) (by omega)
              have c2 : ∀ c, c ≠ 103 → c ≠ 121 → σ2 c = σ1 c := fun c d1 d2 => by rw [hs2, jw_up_out _ _ _ d1, jw_up_out _ _ _ d2, jw_up_out _ _ _ d2, jw_up_out _ _ _ d2]
              have j2 : ∀ j, j ≠ 35 → σ2 103 j = σ1 103 j := fun j hj => by rw [hs2, jw_up_ne _ (by omega), jw_up_out _ _ _ (by omega), jw_up_out _ _ _ (by omega), jw_up_out _ _ _ (by omega)]
              have e2 : σ2 103 35 = σ1 103 35 + 1 := by rw [hs2]; exact jw_up_eq _ _ _ _
              have r2 : ∀ j, j < 3 * σ1 103 35 → σ2 121 j = σ1 121 j := fun j hj => by rw [hs2, jw_up_out _ _ _ (by omega), jw_up_ne _ (by omega), jw_up_ne _ (by omega), jw_up_ne _ (by omega)]
              have r3 : ∀ j, 0 ≤ j → j < 3 → σ2 121 (3 * σ1 103 35 + j) = sg * σ1 124 j := by
                intro j j0 j1
                rw [hs2, jw_up_out _ _ _ (by omega)]
                rcases (show j = 0 ∨ j = 1 ∨ j = 2 by omega) with rfl | rfl | rfl
                · rw [jw_up_ne _ (by omega), jw_up_ne _ (by omega)]
                  exact jw_up_eq _ _ _ _
                · rw [jw_up_ne _ (by omega)]
                  exact jw_up_eq _ _ _ _
                · exact jw_up_eq _ _ _ _
              rw [jk_pw_2 hS]
              have o34 : σ2 103 34 = σ 103 34 := (j2 34 (by omega)).trans (hf.2 34 (by omega) (by omega) (by omega))
              have o36 : σ2 103 36 = σ 103 36 := (j2 36 (by omega)).trans e36
              have o37 : σ2 103 37 = σ 103 37 := (j2 37 (by omega)).trans (hf.2 37 (by omega) (by omega) (by omega))
              have o8 : σ2 103 8 = (jk_sm b m (s 0 2) (s 0 1)).2.1 := (j2 8 (by omega)).trans h18
              have hk1 := hrk.1
              refine ⟨f2, .inr ⟨rfl, ⟨rfl, o8, o34.trans l34, ?_, o36.trans l36, o37.trans l37, ?_, ?_, ?_⟩, jk_tr_fm ht f2 (by omega), (jk_fm9 f2).trans em, by omega, by omega, by omega, by omega, by omega⟩⟩
              · show σ2 103 35 = s 0 3 + 1
                omega
              · intro j j0 j1
                have j3 : j < 3 * (s 0 3 + 1) := j1
                show _ = if j < 3 * s 0 3 then s 1 j else sg * (jk_sm b m (s 0 2) (s 0 1)).2.2 (j - 3 * s 0 3)
                by_cases hj : j < 3 * s 0 3
                · rw [if_pos hj, r2 j (by omega), hf.1 121 (by omega) (by omega)]
                  exact lW j j0 hj
                · rw [if_neg hj, ← hrow (j - 3 * s 0 3) (by omega) (by omega), ← r3 (j - 3 * s 0 3) (by omega) (by omega)]
                  congr 1
                  omega
              · intro k k0 k1
                rw [c2 122 (by omega) (by omega), hf.1 122 (by omega) (by omega)]
                exact lK k k0 k1
              · intro j j0 j1
                rw [c2 123 (by omega) (by omega), hf.1 123 (by omega) (by omega)]
                exact lB j j0 j1
            · exact absurd hc6 (show ¬ ¬ ((3 : Int) ≥ 3) by omega)
    · exact absurd hc2 (show ¬ ¬ ((1 : Int) ≠ 0) by omega)
theorem jk_keepR_end {b : Int → Int} {m : Int} {σ σ1 σ2 σ3 s : jw_H} (hl : jk_ml σ s) (hS : (jk_sm b m (s 0 2) (s 0 1)).1 = 0) (hm : jk_mx b m σ) (hf : jk_ft σ σ1) (h18 : σ1 103 8 = (jk_sm b m (s 0 2) (s 0 1)).2.1) (hrow : ∀ j, 0 ≤ j → j < 3 → σ1 124 j = (jk_sm b m (s 0 2) (s 0 1)).2.2 j) {kd : Int} (hk : (jk_h b m (jk_sm b m (s 0 2) (s 0 1)).2.1 = 60 ∧ kd = 0) ∨ (jk_h b m (jk_sm b m (s 0 2) (s 0 1)).2.1 = 62 ∧ kd = 1)) (hN : (jk_nu b m ((jk_sm b m (s 0 2) (s 0 1)).2.1 + 1)).1 = 0) (f2 : jk_fm σ σ2) (j2 : ∀ j, j ≠ 8 → j ≠ 10 → j ≠ 11 → σ2 103 j = σ1 103 j) (c2 : ∀ c, c ≠ 103 → σ2 c = σ1 c) (hv : σ2 103 11 = (jk_nu b m ((jk_sm b m (s 0 2) (s 0 1)).2.1 + 1)).2.1) (hp : σ2 103 8 = (jk_nu b m ((jk_sm b m (s 0 2) (s 0 1)).2.1 + 1)).2.2) (f3 : jk_fm σ σ3) (c3 : ∀ c, c ≠ 103 → c ≠ 122 → σ3 c = σ2 c) (j3 : ∀ j, j ≠ 36 → σ3 103 j = σ2 103 j) (e3 : σ3 103 36 = σ2 103 36 + 1) (r2 : ∀ j, j < 5 * σ2 103 36 → σ3 122 j = σ2 122 j) (r3 : ∀ j, 0 ≤ j → j < 3 → σ3 122 (5 * σ2 103 36 + j) = σ2 124 j) (r4 : σ3 122 (5 * σ2 103 36 + 3) = σ2 103 11) (r5 : σ3 122 (5 * σ2 103 36 + 4) = kd) (h4 : σ 103 36 < 4) : jk_mp b m σ (jk_pk b m s (s 0 1)) (some (.inl 1)) σ3 := by
  obtain ⟨ht, em, h8, h34, h35, h36, h37⟩ := hm
  obtain ⟨l0, l8, l34, l35, l36, l37, lW, lK, lB⟩ := hl
  have hrk := (jk_rok_sm (b := b) (m := m) (q := s 0 2) (i := s 0 1) (by omega) hS).1
  have hgt := jk_nu_gt (by omega) hN
  have o : ∀ j, j ≠ 8 → j ≠ 10 → j ≠ 11 → j ≠ 36 → σ3 103 j = σ 103 j := fun j d1 d2 d3 d4 => (j3 j d4).trans ((j2 j d1 d2 d3).trans (hf.2 j d1 d2 d3))
  have o34 := o 34 (by omega) (by omega) (by omega) (by omega)
  have o35 := o 35 (by omega) (by omega) (by omega) (by omega)
  have o37 := o 37 (by omega) (by omega) (by omega) (by omega)
  have e2 : σ2 103 36 = σ 103 36 := (j2 36 (by omega) (by omega) (by omega)).trans (hf.2 36 (by omega) (by omega) (by omega))
  have o8 : σ3 103 8 = (jk_nu b m ((jk_sm b m (s 0 2) (s 0 1)).2.1 + 1)).2.2 := (j3 8 (by omega)).trans hp
  have c122 : σ2 122 = σ 122 := (c2 122 (by omega)).trans (hf.1 122 (by omega) (by omega))
  rw [jk_pk_4 hS (by omega) hN]
  refine ⟨f3, .inr ⟨rfl, ⟨rfl, o8, o34.trans l34, o35.trans l35, ?_, o37.trans l37, ?_, ?_, ?_⟩, jk_tr_fm ht f3 (by omega), (jk_fm9 f3).trans em, by omega, by omega, by omega, by omega, by omega⟩⟩
  · show σ3 103 36 = s 0 4 + 1
    omega
  · intro j j0 j1
    rw [c3 121 (by omega) (by omega), c2 121 (by omega), hf.1 121 (by omega) (by omega)]
    exact lW j j0 j1
  · intro k k0 k1
    have k2 : k < s 0 4 + 1 := k1
    show (∀ j, 0 ≤ j → j < 3 → σ3 122 (5 * k + j) = if 3 * k + j < 3 * s 0 4 then s 2 (3 * k + j) else (jk_sm b m (s 0 2) (s 0 1)).2.2 (3 * k + j - 3 * s 0 4)) ∧ σ3 122 (5 * k + 3) = (if k = s 0 4 then (jk_nu b m ((jk_sm b m (s 0 2) (s 0 1)).2.1 + 1)).2.1 else s 3 k) ∧ σ3 122 (5 * k + 4) = if k = s 0 4 then jk_h b m (jk_sm b m (s 0 2) (s 0 1)).2.1 / 2 - 30 else s 4 k
    by_cases hk4 : k = s 0 4
    · have ek : k = σ2 103 36 := by omega
      refine ⟨fun j j0 j1 => ?_, ?_, ?_⟩
      · rw [if_neg (by omega), ek, r3 j j0 j1, c2 124 (by omega), hrow j j0 j1, show 3 * σ2 103 36 + j - 3 * s 0 4 = j by omega]
      · rw [if_pos hk4, ek, r4, hv]
      · rw [if_pos hk4, ek, r5]
        omega
    · have hl := lK k k0 (by omega)
      refine ⟨fun j j0 j1 => ?_, ?_, ?_⟩
      · rw [if_pos (by omega), r2 _ (by omega), c122]
        exact hl.1 j j0 j1
      · rw [if_neg hk4, r2 _ (by omega), c122]
        exact hl.2.1
      · rw [if_neg hk4, r2 _ (by omega), c122]
        exact hl.2.2
  · intro j j0 j1
    rw [c3 123 (by omega) (by omega), c2 123 (by omega), hf.1 123 (by omega) (by omega)]
    exact lB j j0 j1
theorem jk_readsKeep {n : Nat} {σ : jw_H} {b : Int → Int} {m : Int} {s : jw_H} (hm : jk_mx b m σ) (hl : jk_ml σ s) (h4 : σ 103 36 < 4)  : jw_T (js_S n) 5 220 [.inr (.inr 103)] σ (fun r σ' => jk_mp b m σ (jk_pk b m s (s 0 1)) r σ') := by
  refine jw_T_of (D := 4) (M := mm_220) rfl (Nat.le_of_ble_eq_true rfl) (ls0 := [some (.inr (.inr 103)), none, none, none]) rfl ?_ (by rintro _ _ ⟨-, ⟨rfl, -⟩ | ⟨rfl, -⟩⟩ <;> rfl)
  obtain ⟨ht, em, h8, h34, h35, h36, h37⟩ := hm
  have hl0 := hl
  obtain ⟨l0, l8, l34, l35, l36, l37, lW, lK, lB⟩ := hl
  refine jw_W_n 1 (i' := 1) (ls' := [some (.inr (.inr 103)), none, none, none]) (st' := [.inr (.inr 103)]) rfl ?_
  refine jw_W_call (as := [.inr (.inr 103)]) (rest := []) rfl rfl rfl rfl (Nat.le_of_ble_eq_true rfl) (.inr rfl) (jk_readsSum ht (by omega) (by omega)) (by omega) ?_ rfl
  rintro r1 σ0 (⟨rfl, hS, hf, h10⟩ | ⟨rfl, hS, hf, h18, hrow⟩)
  · rename jw_H => σ0
    rw [em, l34, l8] at hS h10
    show jw_W (js_S n) _ md_220 2 [some (.inr (.inr 103)), none, none, none] [.inl 0] σ0 _
    refine jw_W_if rfl (by unfold jw_rg; omega) (fun hc1 => ?_) (fun hc1 => ?_)
    · exact absurd hc1 (show ¬ ((0 : Int) ≠ 0) by omega)
    · clear hc1
      refine jw_W_n 1 (i' := 4) (ls' := [some (.inr (.inr 103)), none, none, none]) (st' := [.inl 0]) rfl ?_
      refine jw_W_ir rfl ?_
      rw [jk_pk_1 hS]
      exact jk_mp_bad (jk_fm_ft hf) hS h10
  · rename jw_H => σ1
    rw [em, l34, l8] at hS h18 hrow
    have hfm := jk_fm_ft hf
    have e35 : σ1 103 35 = σ 103 35 := hf.2 35 (by omega) (by omega) (by omega)
    have e36 : σ1 103 36 = σ 103 36 := hf.2 36 (by omega) (by omega) (by omega)
    have hrk := jk_rok_sm (b := b) (m := m) (q := s 0 2) (i := s 0 1) (by omega) hS
    have hk1 := hrk.1
    have ht1 : jk_tr σ1 b := jk_tr_fm ht hfm (by omega)
    have em1 : σ1 103 9 = m := (jk_fm9 hfm).trans em
    have hh1 := jk_h_rg (b := b) (n := m) (i := (jk_sm b m (s 0 2) (s 0 1)).2.1) (by omega) (fun j j0 j1 => (ht.2.2 j j0 (by omega)).2.2)
    show jw_W (js_S n) _ md_220 2 [some (.inr (.inr 103)), none, none, none] [.inl 1] σ1 _
    refine jw_W_if rfl (by unfold jw_rg; omega) (fun hc2 => ?_) (fun hc2 => ?_)
    · clear hc2
      refine jw_W_n 1 (i' := 6) (ls' := [some (.inr (.inr 103)), none, none, none]) (st' := [.inr (.inr 103)]) rfl ?_
      refine jw_W_call (as := [.inr (.inr 103)]) (rest := []) rfl rfl rfl rfl (Nat.le_of_ble_eq_true rfl) (.inr rfl) (jk_hereR ht1) (by omega) ?_ rfl
      rintro r1 σz ⟨rfl, hs⟩
      rw [hs]
      rw [em1, h18]
      show jw_W (js_S n) _ md_220 7 [some (.inr (.inr 103)), none, none, none] [.inl (jk_h b m (jk_sm b m (s 0 2) (s 0 1)).2.1)] σ1 _
      refine jw_W_n 3 (i' := 10) (ls' := [some (.inr (.inr 103)), some (.inl (jk_h b m (jk_sm b m (s 0 2) (s 0 1)).2.1)), none, none]) (st' := [.inl 60, .inl (jk_h b m (jk_sm b m (s 0 2) (s 0 1)).2.1)]) rfl ?_
      refine jw_W_ic rfl (by unfold jw_rg; omega) (by unfold jw_rg; omega) (fun hc3 => ?_) (fun hc3 => ?_)
      · have hc3 : (jk_h b m (jk_sm b m (s 0 2) (s 0 1)).2.1) = 60 := hc3
        refine jw_W_n 2 (i' := 22) (ls' := [some (.inr (.inr 103)), some (.inl (jk_h b m (jk_sm b m (s 0 2) (s 0 1)).2.1)), none, none]) (st' := [.inr (.inr 103), .inr (.inr 103)]) rfl ?_
        refine jw_W_gf rfl rfl rfl ?_
        show jw_W (js_S n) _ md_220 23 [some (.inr (.inr 103)), some (.inl (jk_h b m (jk_sm b m (s 0 2) (s 0 1)).2.1)), none, none] [.inl (σ1 103 8), .inr (.inr 103)] σ1 _
        refine jw_W_n 2 (i' := 25) (ls' := [some (.inr (.inr 103)), some (.inl (jk_h b m (jk_sm b m (s 0 2) (s 0 1)).2.1)), none, none]) (st' := [.inl (σ1 103 8 + 1), .inr (.inr 103)]) rfl ?_
        refine jw_W_pf (a := σ1 103 8 + 1) rfl (by omega) rfl rfl rfl rfl rfl ?_
        obtain ⟨σa, hsa⟩ : ∃ τ : jw_H, τ = jw_up σ1 103 8 (σ1 103 8 + 1) := ⟨_, rfl⟩
        show jw_W (js_S n) _ _ _ _ _ (jw_up σ1 103 8 (σ1 103 8 + 1)) _
        rw [← hsa]
        have hfa : jk_fm σ σa := by rw [hsa]; exact jk_fm_up hfm (by omega)
        have ea8 : σa 103 8 = (jk_sm b m (s 0 2) (s 0 1)).2.1 + 1 := by rw [hsa, jw_up_eq, h18]
        have ja : ∀ j, j ≠ 8 → σa 103 j = σ1 103 j := fun j hj => by rw [hsa, jw_up_ne _ (by omega)]
        have ca : ∀ c, c ≠ 103 → σa c = σ1 c := fun c hc => by rw [hsa, jw_up_out _ _ _ hc]
        have hta : jk_tr σa b := jk_tr_fm ht hfa (by omega)
        have ema : σa 103 9 = m := (jk_fm9 hfa).trans em
        refine jw_W_n 1 (i' := 27) (ls' := [some (.inr (.inr 103)), some (.inl (jk_h b m (jk_sm b m (s 0 2) (s 0 1)).2.1)), none, none]) (st' := [.inr (.inr 103)]) rfl ?_
        refine jw_W_call (as := [.inr (.inr 103)]) (rest := []) rfl rfl rfl rfl (Nat.le_of_ble_eq_true rfl) (.inr rfl) (jk_readsTwoX hta ema (by omega)) (by omega) ?_ rfl
        rintro r1 σ2 (⟨rfl, hN, hf8, hv⟩ | ⟨rfl, hN, hf8, hv, hp, hv9⟩)
        · rename jw_H => σv
          rw [ea8] at hN hv
          show jw_W (js_S n) _ md_220 28 [some (.inr (.inr 103)), some (.inl (jk_h b m (jk_sm b m (s 0 2) (s 0 1)).2.1)), none, none] [.inl 0] σv _
          refine jw_W_if rfl (by unfold jw_rg; omega) (fun hc4 => ?_) (fun hc4 => ?_)
          · exact absurd hc4 (show ¬ ((0 : Int) ≠ 0) by omega)
          · clear hc4
            refine jw_W_n 1 (i' := 30) (ls' := [some (.inr (.inr 103)), some (.inl (jk_h b m (jk_sm b m (s 0 2) (s 0 1)).2.1)), none, none]) (st' := [.inl 0]) rfl ?_
            refine jw_W_ir rfl ?_
            rw [jk_pk_3 hS (by omega) hN]
            exact jk_mp_bad (jk_fm_tr hfa (jk_fm_f8 hf8)) hN hv
        · rename jw_H => σ2
          rw [ea8] at hN hv hp
          have f2 : jk_fm σ σ2 := jk_fm_tr hfa (jk_fm_f8 hf8)
          have j2 : ∀ j, j ≠ 8 → j ≠ 10 → j ≠ 11 → σ2 103 j = σ1 103 j := fun j d1 d2 d3 => (hf8.2 j d1 d2 d3).trans (ja j d1)
          have c2 : ∀ c, c ≠ 103 → σ2 c = σ1 c := fun c hc => (hf8.1 c hc).trans (ca c hc)
          have k36 : σ2 103 36 = σ 103 36 := (j2 36 (by omega) (by omega) (by omega)).trans e36
          have hgt := jk_nu_gt (by omega) hN
          show jw_W (js_S n) _ md_220 28 [some (.inr (.inr 103)), some (.inl (jk_h b m (jk_sm b m (s 0 2) (s 0 1)).2.1)), none, none] [.inl 1] σ2 _
          refine jw_W_if rfl (by unfold jw_rg; omega) (fun hc5 => ?_) (fun hc5 => ?_)
          · clear hc5
            refine jw_W_n 2 (i' := 33) (ls' := [some (.inr (.inr 103)), some (.inl (jk_h b m (jk_sm b m (s 0 2) (s 0 1)).2.1)), none, none]) (st' := [.inr (.inr 103), .inl 5]) rfl ?_
            refine jw_W_gf rfl rfl rfl ?_
            show jw_W (js_S n) _ md_220 34 [some (.inr (.inr 103)), some (.inl (jk_h b m (jk_sm b m (s 0 2) (s 0 1)).2.1)), none, none] [.inl (σ2 103 36), .inl 5] σ2 _
            refine jw_W_n 6 (i' := 40) (ls' := [some (.inr (.inr 103)), some (.inl (jk_h b m (jk_sm b m (s 0 2) (s 0 1)).2.1)), some (.inl (5 * (σ2 103 36))), some (.inl 0)]) (st' := [.inl 3, .inl 0]) rfl ?_
            refine jw_W_ic rfl (by unfold jw_rg; omega) (by unfold jw_rg; omega) (fun hc6 => ?_) (fun hc6 => ?_)
            · exact absurd hc6 (show ¬ ((0 : Int) ≥ 3) by omega)
            · clear hc6
              refine jw_W_n 1 (i' := 42) (ls' := [some (.inr (.inr 103)), some (.inl (jk_h b m (jk_sm b m (s 0 2) (s 0 1)).2.1)), some (.inl (5 * (σ2 103 36))), some (.inl 0)]) (st' := [.inr (.inr 103)]) rfl ?_
              refine jw_W_gf rfl rfl rfl ?_
              show jw_W (js_S n) _ md_220 43 [some (.inr (.inr 103)), some (.inl (jk_h b m (jk_sm b m (s 0 2) (s 0 1)).2.1)), some (.inl (5 * (σ2 103 36))), some (.inl 0)] [.inr (.inr 122)] σ2 _
              refine jw_W_n 4 (i' := 47) (ls' := [some (.inr (.inr 103)), some (.inl (jk_h b m (jk_sm b m (s 0 2) (s 0 1)).2.1)), some (.inl (5 * (σ2 103 36))), some (.inl 0)]) (st' := [.inr (.inr 103), .inl ((5 * (σ2 103 36)) + 0), .inr (.inr 122)]) rfl ?_
              refine jw_W_gf rfl rfl rfl ?_
              show jw_W (js_S n) _ md_220 48 [some (.inr (.inr 103)), some (.inl (jk_h b m (jk_sm b m (s 0 2) (s 0 1)).2.1)), some (.inl (5 * (σ2 103 36))), some (.inl 0)] [.inr (.inr 124), .inl ((5 * (σ2 103 36)) + 0), .inr (.inr 122)] σ2 _
              refine jw_W_n 1 (i' := 49) (ls' := [some (.inr (.inr 103)), some (.inl (jk_h b m (jk_sm b m (s 0 2) (s 0 1)).2.1)), some (.inl (5 * (σ2 103 36))), some (.inl 0)]) (st' := [.inl 0, .inr (.inr 124), .inl ((5 * (σ2 103 36)) + 0), .inr (.inr 122)]) rfl ?_
              refine jw_W_ia rfl rfl (by omega) (by omega) (by omega) ?_
              show jw_W (js_S n) _ md_220 50 [some (.inr (.inr 103)), some (.inl (jk_h b m (jk_sm b m (s 0 2) (s 0 1)).2.1)), some (.inl (5 * (σ2 103 36))), some (.inl 0)] [.inl (σ2 124 0), .inl ((5 * (σ2 103 36)) + 0), .inr (.inr 122)] σ2 _
              refine jw_W_is rfl (by omega) rfl (by omega) (by omega) (by omega) ?_
              refine jw_W_n 4 (i' := 40) (ls' := [some (.inr (.inr 103)), some (.inl (jk_h b m (jk_sm b m (s 0 2) (s 0 1)).2.1)), some (.inl (5 * (σ2 103 36))), some (.inl 1)]) (st' := [.inl 3, .inl 1]) rfl ?_
              refine jw_W_ic rfl (by unfold jw_rg; omega) (by unfold jw_rg; omega) (fun hc7 => ?_) (fun hc7 => ?_)
              · exact absurd hc7 (show ¬ ((1 : Int) ≥ 3) by omega)
              · clear hc7
                refine jw_W_n 1 (i' := 42) (ls' := [some (.inr (.inr 103)), some (.inl (jk_h b m (jk_sm b m (s 0 2) (s 0 1)).2.1)), some (.inl (5 * (σ2 103 36))), some (.inl 1)]) (st' := [.inr (.inr 103)]) rfl ?_
                refine jw_W_gf rfl rfl rfl ?_
                show jw_W (js_S n) _ md_220 43 [some (.inr (.inr 103)), some (.inl (jk_h b m (jk_sm b m (s 0 2) (s 0 1)).2.1)), some (.inl (5 * (σ2 103 36))), some (.inl 1)] [.inr (.inr 122)] ((jw_up σ2 122 ((5 * (σ2 103 36)) + 0) (σ2 124 0))) _
                refine jw_W_n 4 (i' := 47) (ls' := [some (.inr (.inr 103)), some (.inl (jk_h b m (jk_sm b m (s 0 2) (s 0 1)).2.1)), some (.inl (5 * (σ2 103 36))), some (.inl 1)]) (st' := [.inr (.inr 103), .inl ((5 * (σ2 103 36)) + 1), .inr (.inr 122)]) rfl ?_
                refine jw_W_gf rfl rfl rfl ?_
                show jw_W (js_S n) _ md_220 48 [some (.inr (.inr 103)), some (.inl (jk_h b m (jk_sm b m (s 0 2) (s 0 1)).2.1)), some (.inl (5 * (σ2 103 36))), some (.inl 1)] [.inr (.inr 124), .inl ((5 * (σ2 103 36)) + 1), .inr (.inr 122)] ((jw_up σ2 122 ((5 * (σ2 103 36)) + 0) (σ2 124 0))) _
                refine jw_W_n 1 (i' := 49) (ls' := [some (.inr (.inr 103)), some (.inl (jk_h b m (jk_sm b m (s 0 2) (s 0 1)).2.1)), some (.inl (5 * (σ2 103 36))), some (.inl 1)]) (st' := [.inl 1, .inr (.inr 124), .inl ((5 * (σ2 103 36)) + 1), .inr (.inr 122)]) rfl ?_
                refine jw_W_ia rfl rfl (by omega) (by omega) (by omega) ?_
                show jw_W (js_S n) _ md_220 50 [some (.inr (.inr 103)), some (.inl (jk_h b m (jk_sm b m (s 0 2) (s 0 1)).2.1)), some (.inl (5 * (σ2 103 36))), some (.inl 1)] [.inl (σ2 124 1), .inl ((5 * (σ2 103 36)) + 1), .inr (.inr 122)] ((jw_up σ2 122 ((5 * (σ2 103 36)) + 0) (σ2 124 0))) _
                refine jw_W_is rfl (by omega) rfl (by omega) (by omega) (by omega) ?_
                refine jw_W_n 4 (i' := 40) (ls' := [some (.inr (.inr 103)), some (.inl (jk_h b m (jk_sm b m (s 0 2) (s 0 1)).2.1)), some (.inl (5 * (σ2 103 36))), some (.inl 2)]) (st' := [.inl 3, .inl 2]) rfl ?_
                refine jw_W_ic rfl (by unfold jw_rg; omega) (by unfold jw_rg; omega) (fun hc8 => ?_) (fun hc8 => ?_)
                · exact absurd hc8 (show ¬ ((2 : Int) ≥ 3) by omega)
                · clear hc8
                  refine jw_W_n 1 (i' := 42) (ls' := [some (.inr (.inr 103)), some (.inl (jk_h b m (jk_sm b m (s 0 2) (s 0 1)).2.1)), some (.inl (5 * (σ2 103 36))), some (.inl 2)]) (st' := [.inr (.inr 103)]) rfl ?_
                  refine jw_W_gf rfl rfl rfl ?_
                  show jw_W (js_S n) _ md_220 43 [some (.inr (.inr 103)), some (.inl (jk_h b m (jk_sm b m (s 0 2) (s 0 1)).2.1)), some (.inl (5 * (σ2 103 36))), some (.inl 2)] [.inr (.inr 122)] ((jw_up (jw_up σ2 122 ((5 * (σ2 103 36)) + 0) (σ2 124 0)) 122 ((5 * (σ2 103 36)) + 1) (σ2 124 1))) _
                  refine jw_W_n 4 (i' := 47) (ls' := [some (.inr (.inr 103)), some (.inl (jk_h b m (jk_sm b m (s 0 2) (s 0 1)).2.1)), some (.inl (5 * (σ2 103 36))), some (.inl 2)]) (st' := [.inr (.inr 103), .inl ((5 * (σ2 103 36)) + 2), .inr (.inr 122)]) rfl ?_
                  refine jw_W_gf rfl rfl rfl ?_
                  show jw_W (js_S n) _ md_220 48 [some (.inr (.inr 103)), some (.inl (jk_h b m (jk_sm b m (s 0 2) (s 0 1)).2.1)), some (.inl (5 * (σ2 103 36))), some (.inl 2)] [.inr (.inr 124), .inl ((5 * (σ2 103 36)) + 2), .inr (.inr 122)] ((jw_up (jw_up σ2 122 ((5 * (σ2 103 36)) + 0) (σ2 124 0)) 122 ((5 * (σ2 103 36)) + 1) (σ2 124 1))) _
                  refine jw_W_n 1 (i' := 49) (ls' := [some (.inr (.inr 103)), some (.inl (jk_h b m (jk_sm b m (s 0 2) (s 0 1)).2.1)), some (.inl (5 * (σ2 103 36))), some (.inl 2)]) (st' := [.inl 2, .inr (.inr 124), .inl ((5 * (σ2 103 36)) + 2), .inr (.inr 122)]) rfl ?_
                  refine jw_W_ia rfl rfl (by omega) (by omega) (by omega) ?_
                  show jw_W (js_S n) _ md_220 50 [some (.inr (.inr 103)), some (.inl (jk_h b m (jk_sm b m (s 0 2) (s 0 1)).2.1)), some (.inl (5 * (σ2 103 36))), some (.inl 2)] [.inl (σ2 124 2), .inl ((5 * (σ2 103 36)) + 2), .inr (.inr 122)] ((jw_up (jw_up σ2 122 ((5 * (σ2 103 36)) + 0) (σ2 124 0)) 122 ((5 * (σ2 103 36)) + 1) (σ2 124 1))) _
                  refine jw_W_is rfl (by omega) rfl (by omega) (by omega) (by omega) ?_
                  refine jw_W_n 4 (i' := 40) (ls' := [some (.inr (.inr 103)), some (.inl (jk_h b m (jk_sm b m (s 0 2) (s 0 1)).2.1)), some (.inl (5 * (σ2 103 36))), some (.inl 3)]) (st' := [.inl 3, .inl 3]) rfl ?_
                  refine jw_W_ic rfl (by unfold jw_rg; omega) (by unfold jw_rg; omega) (fun hc9 => ?_) (fun hc9 => ?_)
                  · clear hc9
                    refine jw_W_n 1 (i' := 54) (ls' := [some (.inr (.inr 103)), some (.inl (jk_h b m (jk_sm b m (s 0 2) (s 0 1)).2.1)), some (.inl (5 * (σ2 103 36))), some (.inl 3)]) (st' := [.inr (.inr 103)]) rfl ?_
                    refine jw_W_gf rfl rfl rfl ?_
                    show jw_W (js_S n) _ md_220 55 [some (.inr (.inr 103)), some (.inl (jk_h b m (jk_sm b m (s 0 2) (s 0 1)).2.1)), some (.inl (5 * (σ2 103 36))), some (.inl 3)] [.inr (.inr 122)] ((jw_up (jw_up (jw_up σ2 122 ((5 * (σ2 103 36)) + 0) (σ2 124 0)) 122 ((5 * (σ2 103 36)) + 1) (σ2 124 1)) 122 ((5 * (σ2 103 36)) + 2) (σ2 124 2))) _
                    refine jw_W_n 4 (i' := 59) (ls' := [some (.inr (.inr 103)), some (.inl (jk_h b m (jk_sm b m (s 0 2) (s 0 1)).2.1)), some (.inl (5 * (σ2 103 36))), some (.inl 3)]) (st' := [.inr (.inr 103), .inl ((5 * (σ2 103 36)) + 3), .inr (.inr 122)]) rfl ?_
                    refine jw_W_gf rfl rfl rfl ?_
                    show jw_W (js_S n) _ md_220 60 [some (.inr (.inr 103)), some (.inl (jk_h b m (jk_sm b m (s 0 2) (s 0 1)).2.1)), some (.inl (5 * (σ2 103 36))), some (.inl 3)] [.inl (σ2 103 11), .inl ((5 * (σ2 103 36)) + 3), .inr (.inr 122)] ((jw_up (jw_up (jw_up σ2 122 ((5 * (σ2 103 36)) + 0) (σ2 124 0)) 122 ((5 * (σ2 103 36)) + 1) (σ2 124 1)) 122 ((5 * (σ2 103 36)) + 2) (σ2 124 2))) _
                    refine jw_W_is rfl (by omega) rfl (by omega) (by omega) (by omega) ?_
                    refine jw_W_n 1 (i' := 62) (ls' := [some (.inr (.inr 103)), some (.inl (jk_h b m (jk_sm b m (s 0 2) (s 0 1)).2.1)), some (.inl (5 * (σ2 103 36))), some (.inl 3)]) (st' := [.inr (.inr 103)]) rfl ?_
                    refine jw_W_gf rfl rfl rfl ?_
                    show jw_W (js_S n) _ md_220 63 [some (.inr (.inr 103)), some (.inl (jk_h b m (jk_sm b m (s 0 2) (s 0 1)).2.1)), some (.inl (5 * (σ2 103 36))), some (.inl 3)] [.inr (.inr 122)] ((jw_up (jw_up (jw_up (jw_up σ2 122 ((5 * (σ2 103 36)) + 0) (σ2 124 0)) 122 ((5 * (σ2 103 36)) + 1) (σ2 124 1)) 122 ((5 * (σ2 103 36)) + 2) (σ2 124 2)) 122 ((5 * (σ2 103 36)) + 3) (σ2 103 11))) _
                    refine jw_W_n 5 (i' := 68) (ls' := [some (.inr (.inr 103)), some (.inl (jk_h b m (jk_sm b m (s 0 2) (s 0 1)).2.1)), some (.inl (5 * (σ2 103 36))), some (.inl 3)]) (st' := [.inl 62, .inl (jk_h b m (jk_sm b m (s 0 2) (s 0 1)).2.1), .inl ((5 * (σ2 103 36)) + 4), .inr (.inr 122)]) rfl ?_
                    refine jw_W_ic rfl (by unfold jw_rg; omega) (by unfold jw_rg; omega) (fun hc10 => ?_) (fun hc10 => ?_)
                    · have hc10 : (jk_h b m (jk_sm b m (s 0 2) (s 0 1)).2.1) ≠ 62 := hc10
                      refine jw_W_n 1 (i' := 72) (ls' := [some (.inr (.inr 103)), some (.inl (jk_h b m (jk_sm b m (s 0 2) (s 0 1)).2.1)), some (.inl (5 * (σ2 103 36))), some (.inl 3)]) (st' := [.inl 0, .inl ((5 * (σ2 103 36)) + 4), .inr (.inr 122)]) rfl ?_
                      refine jw_W_is rfl (by omega) rfl (by omega) (by omega) (by omega) ?_
                      refine jw_W_n 2 (i' := 75) (ls' := [some (.inr (.inr 103)), some (.inl (jk_h b m (jk_sm b m (s 0 2) (s 0 1)).2.1)), some (.inl (5 * (σ2 103 36))), some (.inl 3)]) (st' := [.inr (.inr 103), .inr (.inr 103)]) rfl ?_
                      refine jw_W_gf rfl rfl rfl ?_
                      show jw_W (js_S n) _ md_220 76 [some (.inr (.inr 103)), some (.inl (jk_h b m (jk_sm b m (s 0 2) (s 0 1)).2.1)), some (.inl (5 * (σ2 103 36))), some (.inl 3)] [.inl (σ2 103 36), .inr (.inr 103)] ((jw_up (jw_up (jw_up (jw_up (jw_up σ2 122 ((5 * (σ2 103 36)) + 0) (σ2 124 0)) 122 ((5 * (σ2 103 36)) + 1) (σ2 124 1)) 122 ((5 * (σ2 103 36)) + 2) (σ2 124 2)) 122 ((5 * (σ2 103 36)) + 3) (σ2 103 11)) 122 ((5 * (σ2 103 36)) + 4) 0)) _
                      refine jw_W_n 2 (i' := 78) (ls' := [some (.inr (.inr 103)), some (.inl (jk_h b m (jk_sm b m (s 0 2) (s 0 1)).2.1)), some (.inl (5 * (σ2 103 36))), some (.inl 3)]) (st' := [.inl (σ2 103 36 + 1), .inr (.inr 103)]) rfl ?_
                      refine jw_W_pf (a := σ2 103 36 + 1) rfl (by omega) rfl rfl rfl rfl rfl ?_
                      refine jw_W_n 1 (i' := 80) (ls' := [some (.inr (.inr 103)), some (.inl (jk_h b m (jk_sm b m (s 0 2) (s 0 1)).2.1)), some (.inl (5 * (σ2 103 36))), some (.inl 3)]) (st' := [.inl 1]) rfl ?_
                      refine jw_W_ir rfl ?_
                      obtain ⟨σ3, hs3⟩ : ∃ τ : jw_H, τ = jw_up (jw_up (jw_up (jw_up (jw_up (jw_up σ2 122 ((5 * (σ2 103 36)) + 0) (σ2 124 0)) 122 ((5 * (σ2 103 36)) + 1) (σ2 124 1)) 122 ((5 * (σ2 103 36)) + 2) (σ2 124 2)) 122 ((5 * (σ2 103 36)) + 3) (σ2 103 11)) 122 ((5 * (σ2 103 36)) + 4) 0) 103 36 (σ2 103 36 + 1) := ⟨_, rfl⟩
                      show jk_mp b m σ _ _ (jw_up (jw_up (jw_up (jw_up (jw_up (jw_up σ2 122 ((5 * (σ2 103 36)) + 0) (σ2 124 0)) 122 ((5 * (σ2 103 36)) + 1) (σ2 124 1)) 122 ((5 * (σ2 103 36)) + 2) (σ2 124 2)) 122 ((5 * (σ2 103 36)) + 3) (σ2 103 11)) 122 ((5 * (σ2 103 36)) + 4) 0) 103 36 (σ2 103 36 + 1))
                      rw [← hs3]
                      have f3 : jk_fm σ σ3 := by rw [hs3]; exact jk_fm_up (jk_fm_up (jk_fm_up (jk_fm_up (jk_fm_up (jk_fm_up f2 (by omega)) (by omega)) (by omega)) (by omega)) (by omega)) (by omega)
                      have c3 : ∀ c, c ≠ 103 → c ≠ 122 → σ3 c = σ2 c := fun c d1 d2 => by rw [hs3, jw_up_out _ _ _ d1, jw_up_out _ _ _ d2, jw_up_out _ _ _ d2, jw_up_out _ _ _ d2, jw_up_out _ _ _ d2, jw_up_out _ _ _ d2]
                      have j3 : ∀ j, j ≠ 36 → σ3 103 j = σ2 103 j := fun j hj => by rw [hs3, jw_up_ne _ (by omega), jw_up_out _ _ _ (by omega), jw_up_out _ _ _ (by omega), jw_up_out _ _ _ (by omega), jw_up_out _ _ _ (by omega), jw_up_out _ _ _ (by omega)]
                      have e3 : σ3 103 36 = σ2 103 36 + 1 := by rw [hs3]; exact jw_up_eq _ _ _ _
                      have r2 : ∀ j, j < 5 * σ2 103 36 → σ3 122 j = σ2 122 j := fun j hj => by rw [hs3, jw_up_out _ _ _ (by omega), jw_up_ne _ (by omega), jw_up_ne _ (by omega), jw_up_ne _ (by omega), jw_up_ne _ (by omega), jw_up_ne _ (by omega)]
                      have r3 : ∀ j, 0 ≤ j → j < 3 → σ3 122 (5 * σ2 103 36 + j) = σ2 124 j := by
                        intro j j0 j1
                        rw [hs3, jw_up_out _ _ _ (by omega), jw_up_ne _ (by omega), jw_up_ne _ (by omega)]
                        rcases (show j = 0 ∨ j = 1 ∨ j = 2 by omega) with rfl | rfl | rfl
                        · rw [jw_up_ne _ (by omega), jw_up_ne _ (by omega)]
                          exact jw_up_eq _ _ _ _
                        · rw [jw_up_ne _ (by omega)]
                          exact jw_up_eq _ _ _ _
                        · exact jw_up_eq _ _ _ _
                      have r4 : σ3 122 (5 * σ2 103 36 + 3) = σ2 103 11 := by
                        rw [hs3, jw_up_out _ _ _ (by omega), jw_up_ne _ (by omega)]
                        exact jw_up_eq _ _ _ _
                      have r5 : σ3 122 (5 * σ2 103 36 + 4) = 0 := by
                        rw [hs3, jw_up_out _ _ _ (by omega)]
                        exact jw_up_eq _ _ _ _
                      exact jk_keepR_end hl0 hS ⟨ht, em, h8, h34, h35, h36, h37⟩ hf h18 hrow (kd := 0) (by omega) hN f2 j2 c2 hv hp f3 c3 j3 e3 r2 r3 r4 r5 h4
                    · have hc10 : (jk_h b m (jk_sm b m (s 0 2) (s 0 1)).2.1) = 62 := Classical.not_not.mp hc10
                      refine jw_W_n 2 (i' := 72) (ls' := [some (.inr (.inr 103)), some (.inl (jk_h b m (jk_sm b m (s 0 2) (s 0 1)).2.1)), some (.inl (5 * (σ2 103 36))), some (.inl 3)]) (st' := [.inl 1, .inl ((5 * (σ2 103 36)) + 4), .inr (.inr 122)]) rfl ?_
                      refine jw_W_is rfl (by omega) rfl (by omega) (by omega) (by omega) ?_
                      refine jw_W_n 2 (i' := 75) (ls' := [some (.inr (.inr 103)), some (.inl (jk_h b m (jk_sm b m (s 0 2) (s 0 1)).2.1)), some (.inl (5 * (σ2 103 36))), some (.inl 3)]) (st' := [.inr (.inr 103), .inr (.inr 103)]) rfl ?_
                      refine jw_W_gf rfl rfl rfl ?_
                      show jw_W (js_S n) _ md_220 76 [some (.inr (.inr 103)), some (.inl (jk_h b m (jk_sm b m (s 0 2) (s 0 1)).2.1)), some (.inl (5 * (σ2 103 36))), some (.inl 3)] [.inl (σ2 103 36), .inr (.inr 103)] ((jw_up (jw_up (jw_up (jw_up (jw_up σ2 122 ((5 * (σ2 103 36)) + 0) (σ2 124 0)) 122 ((5 * (σ2 103 36)) + 1) (σ2 124 1)) 122 ((5 * (σ2 103 36)) + 2) (σ2 124 2)) 122 ((5 * (σ2 103 36)) + 3) (σ2 103 11)) 122 ((5 * (σ2 103 36)) + 4) 1)) _
                      refine jw_W_n 2 (i' := 78) (ls' := [some (.inr (.inr 103)), some (.inl (jk_h b m (jk_sm b m (s 0 2) (s 0 1)).2.1)), some (.inl (5 * (σ2 103 36))), some (.inl 3)]) (st' := [.inl (σ2 103 36 + 1), .inr (.inr 103)]) rfl ?_
                      refine jw_W_pf (a := σ2 103 36 + 1) rfl (by omega) rfl rfl rfl rfl rfl ?_
                      refine jw_W_n 1 (i' := 80) (ls' := [some (.inr (.inr 103)), some (.inl (jk_h b m (jk_sm b m (s 0 2) (s 0 1)).2.1)), some (.inl (5 * (σ2 103 36))), some (.inl 3)]) (st' := [.inl 1]) rfl ?_
                      refine jw_W_ir rfl ?_
                      obtain ⟨σ3, hs3⟩ : ∃ τ : jw_H, τ = jw_up (jw_up (jw_up (jw_up (jw_up (jw_up σ2 122 ((5 * (σ2 103 36)) + 0) (σ2 124 0)) 122 ((5 * (σ2 103 36)) + 1) (σ2 124 1)) 122 ((5 * (σ2 103 36)) + 2) (σ2 124 2)) 122 ((5 * (σ2 103 36)) + 3) (σ2 103 11)) 122 ((5 * (σ2 103 36)) + 4) 1) 103 36 (σ2 103 36 + 1) := ⟨_, rfl⟩
                      show jk_mp b m σ _ _ (jw_up (jw_up (jw_up (jw_up (jw_up (jw_up σ2 122 ((5 * (σ2 103 36)) + 0) (σ2 124 0)) 122 ((5 * (σ2 103 36)) + 1) (σ2 124 1)) 122 ((5 * (σ2 103 36)) + 2) (σ2 124 2)) 122 ((5 * (σ2 103 36)) + 3) (σ2 103 11)) 122 ((5 * (σ2 103 36)) + 4) 1) 103 36 (σ2 103 36 + 1))
                      rw [← hs3]
                      have f3 : jk_fm σ σ3 := by rw [hs3]; exact jk_fm_up (jk_fm_up (jk_fm_up (jk_fm_up (jk_fm_up (jk_fm_up f2 (by omega)) (by omega)) (by omega)) (by omega)) (by omega)) (by omega)
                      have c3 : ∀ c, c ≠ 103 → c ≠ 122 → σ3 c = σ2 c := fun c d1 d2 => by rw [hs3, jw_up_out _ _ _ d1, jw_up_out _ _ _ d2, jw_up_out _ _ _ d2, jw_up_out _ _ _ d2, jw_up_out _ _ _ d2, jw_up_out _ _ _ d2]
                      have j3 : ∀ j, j ≠ 36 → σ3 103 j = σ2 103 j := fun j hj => by rw [hs3, jw_up_ne _ (by omega), jw_up_out _ _ _ (by omega), jw_up_out _ _ _ (by omega), jw_up_out _ _ _ (by omega), jw_up_out _ _ _ (by omega), jw_up_out _ _ _ (by omega)]
                      have e3 : σ3 103 36 = σ2 103 36 + 1 := by rw [hs3]; exact jw_up_eq _ _ _ _
                      have r2 : ∀ j, j < 5 * σ2 103 36 → σ3 122 j = σ2 122 j := fun j hj => by rw [hs3, jw_up_out _ _ _ (by omega), jw_up_ne _ (by omega), jw_up_ne _ (by omega), jw_up_ne _ (by omega), jw_up_ne _ (by omega), jw_up_ne _ (by omega)]
                      have r3 : ∀ j, 0 ≤ j → j < 3 → σ3 122 (5 * σ2 103 36 + j) = σ2 124 j := by
                        intro j j0 j1
                        rw [hs3, jw_up_out _ _ _ (by omega), jw_up_ne _ (by omega), jw_up_ne _ (by omega)]
                        rcases (show j = 0 ∨ j = 1 ∨ j = 2 by omega) with rfl | rfl | rfl
                        · rw [jw_up_ne _ (by omega), jw_up_ne _ (by omega)]
                          exact jw_up_eq _ _ _ _
                        · rw [jw_up_ne _ (by omega)]
                          exact jw_up_eq _ _ _ _
                        · exact jw_up_eq _ _ _ _
                      have r4 : σ3 122 (5 * σ2 103 36 + 3) = σ2 103 11 := by
                        rw [hs3, jw_up_out _ _ _ (by omega), jw_up_ne _ (by omega)]
                        exact jw_up_eq _ _ _ _
                      have r5 : σ3 122 (5 * σ2 103 36 + 4) = 1 := by
                        rw [hs3, jw_up_out _ _ _ (by omega)]
                        exact jw_up_eq _ _ _ _
                      exact jk_keepR_end hl0 hS ⟨ht, em, h8, h34, h35, h36, h37⟩ hf h18 hrow (kd := 1) (by omega) hN f2 j2 c2 hv hp f3 c3 j3 e3 r2 r3 r4 r5 h4
                  · exact absurd hc9 (show ¬ ¬ ((3 : Int) ≥ 3) by omega)
          · exact absurd hc5 (show ¬ ¬ ((1 : Int) ≠ 0) by omega)
      · have hc3 : ¬ ((jk_h b m (jk_sm b m (s 0 2) (s 0 1)).2.1) = 60) := hc3
        refine jw_W_n 2 (i' := 13) (ls' := [some (.inr (.inr 103)), some (.inl (jk_h b m (jk_sm b m (s 0 2) (s 0 1)).2.1)), none, none]) (st' := [.inl 62, .inl (jk_h b m (jk_sm b m (s 0 2) (s 0 1)).2.1)]) rfl ?_
        refine jw_W_ic rfl (by unfold jw_rg; omega) (by unfold jw_rg; omega) (fun hc11 => ?_) (fun hc11 => ?_)
        · have hc11 : (jk_h b m (jk_sm b m (s 0 2) (s 0 1)).2.1) = 62 := hc11
          refine jw_W_n 2 (i' := 22) (ls' := [some (.inr (.inr 103)), some (.inl (jk_h b m (jk_sm b m (s 0 2) (s 0 1)).2.1)), none, none]) (st' := [.inr (.inr 103), .inr (.inr 103)]) rfl ?_
          refine jw_W_gf rfl rfl rfl ?_
          show jw_W (js_S n) _ md_220 23 [some (.inr (.inr 103)), some (.inl (jk_h b m (jk_sm b m (s 0 2) (s 0 1)).2.1)), none, none] [.inl (σ1 103 8), .inr (.inr 103)] σ1 _
          refine jw_W_n 2 (i' := 25) (ls' := [some (.inr (.inr 103)), some (.inl (jk_h b m (jk_sm b m (s 0 2) (s 0 1)).2.1)), none, none]) (st' := [.inl (σ1 103 8 + 1), .inr (.inr 103)]) rfl ?_
          refine jw_W_pf (a := σ1 103 8 + 1) rfl (by omega) rfl rfl rfl rfl rfl ?_
          obtain ⟨σa, hsa⟩ : ∃ τ : jw_H, τ = jw_up σ1 103 8 (σ1 103 8 + 1) := ⟨_, rfl⟩
          show jw_W (js_S n) _ _ _ _ _ (jw_up σ1 103 8 (σ1 103 8 + 1)) _
          rw [← hsa]
          have hfa : jk_fm σ σa := by rw [hsa]; exact jk_fm_up hfm (by omega)
          have ea8 : σa 103 8 = (jk_sm b m (s 0 2) (s 0 1)).2.1 + 1 := by rw [hsa, jw_up_eq, h18]
          have ja : ∀ j, j ≠ 8 → σa 103 j = σ1 103 j := fun j hj => by rw [hsa, jw_up_ne _ (by omega)]
          have ca : ∀ c, c ≠ 103 → σa c = σ1 c := fun c hc => by rw [hsa, jw_up_out _ _ _ hc]
          have hta : jk_tr σa b := jk_tr_fm ht hfa (by omega)
          have ema : σa 103 9 = m := (jk_fm9 hfa).trans em
          refine jw_W_n 1 (i' := 27) (ls' := [some (.inr (.inr 103)), some (.inl (jk_h b m (jk_sm b m (s 0 2) (s 0 1)).2.1)), none, none]) (st' := [.inr (.inr 103)]) rfl ?_
          refine jw_W_call (as := [.inr (.inr 103)]) (rest := []) rfl rfl rfl rfl (Nat.le_of_ble_eq_true rfl) (.inr rfl) (jk_readsTwoX hta ema (by omega)) (by omega) ?_ rfl
          rintro r1 σ2 (⟨rfl, hN, hf8, hv⟩ | ⟨rfl, hN, hf8, hv, hp, hv9⟩)
          · rename jw_H => σv
            rw [ea8] at hN hv
            show jw_W (js_S n) _ md_220 28 [some (.inr (.inr 103)), some (.inl (jk_h b m (jk_sm b m (s 0 2) (s 0 1)).2.1)), none, none] [.inl 0] σv _
            refine jw_W_if rfl (by unfold jw_rg; omega) (fun hc12 => ?_) (fun hc12 => ?_)
            · exact absurd hc12 (show ¬ ((0 : Int) ≠ 0) by omega)
            · clear hc12
              refine jw_W_n 1 (i' := 30) (ls' := [some (.inr (.inr 103)), some (.inl (jk_h b m (jk_sm b m (s 0 2) (s 0 1)).2.1)), none, none]) (st' := [.inl 0]) rfl ?_
              refine jw_W_ir rfl ?_
              rw [jk_pk_3 hS (by omega) hN]
              exact jk_mp_bad (jk_fm_tr hfa (jk_fm_f8 hf8)) hN hv
          · rename jw_H => σ2
            rw [ea8] at hN hv hp
            have f2 : jk_fm σ σ2 := jk_fm_tr hfa (jk_fm_f8 hf8)
            have j2 : ∀ j, j ≠ 8 → j ≠ 10 → j ≠ 11 → σ2 103 j = σ1 103 j := fun j d1 d2 d3 => (hf8.2 j d1 d2 d3).trans (ja j d1)
            have c2 : ∀ c, c ≠ 103 → σ2 c = σ1 c := fun c hc => (hf8.1 c hc).trans (ca c hc)
            have k36 : σ2 103 36 = σ 103 36 := (j2 36 (by omega) (by omega) (by omega)).trans e36
            have hgt := jk_nu_gt (by omega) hN
            show jw_W (js_S n) _ md_220 28 [some (.inr (.inr 103)), some (.inl (jk_h b m (jk_sm b m (s 0 2) (s 0 1)).2.1)), none, none] [.inl 1] σ2 _
            refine jw_W_if rfl (by unfold jw_rg; omega) (fun hc13 => ?_) (fun hc13 => ?_)
            · clear hc13
              refine jw_W_n 2 (i' := 33) (ls' := [some (.inr (.inr 103)), some (.inl (jk_h b m (jk_sm b m (s 0 2) (s 0 1)).2.1)), none, none]) (st' := [.inr (.inr 103), .inl 5]) rfl ?_
              refine jw_W_gf rfl rfl rfl ?_
              show jw_W (js_S n) _ md_220 34 [some (.inr (.inr 103)), some (.inl (jk_h b m (jk_sm b m (s 0 2) (s 0 1)).2.1)), none, none] [.inl (σ2 103 36), .inl 5] σ2 _
              refine jw_W_n 6 (i' := 40) (ls' := [some (.inr (.inr 103)), some (.inl (jk_h b m (jk_sm b m (s 0 2) (s 0 1)).2.1)), some (.inl (5 * (σ2 103 36))), some (.inl 0)]) (st' := [.inl 3, .inl 0]) rfl ?_
              refine jw_W_ic rfl (by unfold jw_rg; omega) (by unfold jw_rg; omega) (fun hc14 => ?_) (fun hc14 => ?_)
              · exact absurd hc14 (show ¬ ((0 : Int) ≥ 3) by omega)
              · clear hc14
                refine jw_W_n 1 (i' := 42) (ls' := [some (.inr (.inr 103)), some (.inl (jk_h b m (jk_sm b m (s 0 2) (s 0 1)).2.1)), some (.inl (5 * (σ2 103 36))), some (.inl 0)]) (st' := [.inr (.inr 103)]) rfl ?_
                refine jw_W_gf rfl rfl rfl ?_
                show jw_W (js_S n) _ md_220 43 [some (.inr (.inr 103)), some (.inl (jk_h b m (jk_sm b m (s 0 2) (s 0 1)).2.1)), some (.inl (5 * (σ2 103 36))), some (.inl 0)] [.inr (.inr 122)] σ2 _
                refine jw_W_n 4 (i' := 47) (ls' := [some (.inr (.inr 103)), some (.inl (jk_h b m (jk_sm b m (s 0 2) (s 0 1)).2.1)), some (.inl (5 * (σ2 103 36))), some (.inl 0)]) (st' := [.inr (.inr 103), .inl ((5 * (σ2 103 36)) + 0), .inr (.inr 122)]) rfl ?_
                refine jw_W_gf rfl rfl rfl ?_
                show jw_W (js_S n) _ md_220 48 [some (.inr (.inr 103)), some (.inl (jk_h b m (jk_sm b m (s 0 2) (s 0 1)).2.1)), some (.inl (5 * (σ2 103 36))), some (.inl 0)] [.inr (.inr 124), .inl ((5 * (σ2 103 36)) + 0), .inr (.inr 122)] σ2 _
                refine jw_W_n 1 (i' := 49) (ls' := [some (.inr (.inr 103)), some (.inl (jk_h b m (jk_sm b m (s 0 2) (s 0 1)).2.1)), some (.inl (5 * (σ2 103 36))), some (.inl 0)]) (st' := [.inl 0, .inr (.inr 124), .inl ((5 * (σ2 103 36)) + 0), .inr (.inr 122)]) rfl ?_
                refine jw_W_ia rfl rfl (by omega) (by omega) (by omega) ?_
                show jw_W (js_S n) _ md_220 50 [some (.inr (.inr 103)), some (.inl (jk_h b m (jk_sm b m (s 0 2) (s 0 1)).2.1)), some (.inl (5 * (σ2 103 36))), some (.inl 0)] [.inl (σ2 124 0), .inl ((5 * (σ2 103 36)) + 0), .inr (.inr 122)] σ2 _
                refine jw_W_is rfl (by omega) rfl (by omega) (by omega) (by omega) ?_
                refine jw_W_n 4 (i' := 40) (ls' := [some (.inr (.inr 103)), some (.inl (jk_h b m (jk_sm b m (s 0 2) (s 0 1)).2.1)), some (.inl (5 * (σ2 103 36))), some (.inl 1)]) (st' := [.inl 3, .inl 1]) rfl ?_
                refine jw_W_ic rfl (by unfold jw_rg; omega) (by unfold jw_rg; omega) (fun hc15 => ?_) (fun hc15 => ?_)
                · exact absurd hc15 (show ¬ ((1 : Int) ≥ 3) by omega)
                · clear hc15
                  refine jw_W_n 1 (i' := 42) (ls' := [some (.inr (.inr 103)), some (.inl (jk_h b m (jk_sm b m (s 0 2) (s 0 1)).2.1)), some (.inl (5 * (σ2 103 36))), some (.inl 1)]) (st' := [.inr (.inr 103)]) rfl ?_
                  refine jw_W_gf rfl rfl rfl ?_
                  show jw_W (js_S n) _ md_220 43 [some (.inr (.inr 103)), some (.inl (jk_h b m (jk_sm b m (s 0 2) (s 0 1)).2.1)), some (.inl (5 * (σ2 103 36))), some (.inl 1)] [.inr (.inr 122)] ((jw_up σ2 122 ((5 * (σ2 103 36)) + 0) (σ2 124 0))) _
                  refine jw_W_n 4 (i' := 47) (ls' := [some (.inr (.inr 103)), some (.inl (jk_h b m (jk_sm b m (s 0 2) (s 0 1)).2.1)), some (.inl (5 * (σ2 103 36))), some (.inl 1)]) (st' := [.inr (.inr 103), .inl ((5 * (σ2 103 36)) + 1), .inr (.inr 122)]) rfl ?_
                  refine jw_W_gf rfl rfl rfl ?_
                  show jw_W (js_S n) _ md_220 48 [some (.inr (.inr 103)), some (.inl (jk_h b m (jk_sm b m (s 0 2) (s 0 1)).2.1)), some (.inl (5 * (σ2 103 36))), some (.inl 1)] [.inr (.inr 124), .inl ((5 * (σ2 103 36)) + 1), .inr (.inr 122)] ((jw_up σ2 122 ((5 * (σ2 103 36)) + 0) (σ2 124 0))) _
                  refine jw_W_n 1 (i' := 49) (ls' := [some (.inr (.inr 103)), some (.inl (jk_h b m (jk_sm b m (s 0 2) (s 0 1)).2.1)), some (.inl (5 * (σ2 103 36))), some (.inl 1)]) (st' := [.inl 1, .inr (.inr 124), .inl ((5 * (σ2 103 36)) + 1), .inr (.inr 122)]) rfl ?_
                  refine jw_W_ia rfl rfl (by omega) (by omega) (by omega) ?_
                  show jw_W (js_S n) _ md_220 50 [some (.inr (.inr 103)), some (.inl (jk_h b m (jk_sm b m (s 0 2) (s 0 1)).2.1)), some (.inl (5 * (σ2 103 36))), some (.inl 1)] [.inl (σ2 124 1), .inl ((5 * (σ2 103 36)) + 1), .inr (.inr 122)] ((jw_up σ2 122 ((5 * (σ2 103 36)) + 0) (σ2 124 0))) _
                  refine jw_W_is rfl (by omega) rfl (by omega) (by omega) (by omega) ?_
                  refine jw_W_n 4 (i' := 40) (ls' := [some (.inr (.inr 103)), some (.inl (jk_h b m (jk_sm b m (s 0 2) (s 0 1)).2.1)), some (.inl (5 * (σ2 103 36))), some (.inl 2)]) (st' := [.inl 3, .inl 2]) rfl ?_
                  refine jw_W_ic rfl (by unfold jw_rg; omega) (by unfold jw_rg; omega) (fun hc16 => ?_) (fun hc16 => ?_)
                  · exact absurd hc16 (show ¬ ((2 : Int) ≥ 3) by omega)
                  · clear hc16
                    refine jw_W_n 1 (i' := 42) (ls' := [some (.inr (.inr 103)), some (.inl (jk_h b m (jk_sm b m (s 0 2) (s 0 1)).2.1)), some (.inl (5 * (σ2 103 36))), some (.inl 2)]) (st' := [.inr (.inr 103)]) rfl ?_
                    refine jw_W_gf rfl rfl rfl ?_
                    show jw_W (js_S n) _ md_220 43 [some (.inr (.inr 103)), some (.inl (jk_h b m (jk_sm b m (s 0 2) (s 0 1)).2.1)), some (.inl (5 * (σ2 103 36))), some (.inl 2)] [.inr (.inr 122)] ((jw_up (jw_up σ2 122 ((5 * (σ2 103 36)) + 0) (σ2 124 0)) 122 ((5 * (σ2 103 36)) + 1) (σ2 124 1))) _
                    refine jw_W_n 4 (i' := 47) (ls' := [some (.inr (.inr 103)), some (.inl (jk_h b m (jk_sm b m (s 0 2) (s 0 1)).2.1)), some (.inl (5 * (σ2 103 36))), some (.inl 2)]) (st' := [.inr (.inr 103), .inl ((5 * (σ2 103 36)) + 2), .inr (.inr 122)]) rfl ?_
                    refine jw_W_gf rfl rfl rfl ?_
                    show jw_W (js_S n) _ md_220 48 [some (.inr (.inr 103)), some (.inl (jk_h b m (jk_sm b m (s 0 2) (s 0 1)).2.1)), some (.inl (5 * (σ2 103 36))), some (.inl 2)] [.inr (.inr 124), .inl ((5 * (σ2 103 36)) + 2), .inr (.inr 122)] ((jw_up (jw_up σ2 122 ((5 * (σ2 103 36)) + 0) (σ2 124 0)) 122 ((5 * (σ2 103 36)) + 1) (σ2 124 1))) _
                    refine jw_W_n 1 (i' := 49) (ls' := [some (.inr (.inr 103)), some (.inl (jk_h b m (jk_sm b m (s 0 2) (s 0 1)).2.1)), some (.inl (5 * (σ2 103 36))), some (.inl 2)]) (st' := [.inl 2, .inr (.inr 124), .inl ((5 * (σ2 103 36)) + 2), .inr (.inr 122)]) rfl ?_
                    refine jw_W_ia rfl rfl (by omega) (by omega) (by omega) ?_
                    show jw_W (js_S n) _ md_220 50 [some (.inr (.inr 103)), some (.inl (jk_h b m (jk_sm b m (s 0 2) (s 0 1)).2.1)), some (.inl (5 * (σ2 103 36))), some (.inl 2)] [.inl (σ2 124 2), .inl ((5 * (σ2 103 36)) + 2), .inr (.inr 122)] ((jw_up (jw_up σ2 122 ((5 * (σ2 103 36)) + 0) (σ2 124 0)) 122 ((5 * (σ2 103 36)) + 1) (σ2 124 1))) _
                    refine jw_W_is rfl (by omega) rfl (by omega) (by omega) (by omega) ?_
                    refine jw_W_n 4 (i' := 40) (ls' := [some (.inr (.inr 103)), some (.inl (jk_h b m (jk_sm b m (s 0 2) (s 0 1)).2.1)), some (.inl (5 * (σ2 103 36))), some (.inl 3)]) (st' := [.inl 3, .inl 3]) rfl ?_
                    refine jw_W_ic rfl (by unfold jw_rg; omega) (by unfold jw_rg; omega) (fun hc17 => ?_) (fun hc17 => ?_)
                    · clear hc17
                      refine jw_W_n 1 (i' := 54) (ls' := [some (.inr (.inr 103)), some (.inl (jk_h b m (jk_sm b m (s 0 2) (s 0 1)).2.1)), some (.inl (5 * (σ2 103 36))), some (.inl 3)]) (st' := [.inr (.inr 103)]) rfl ?_
                      refine jw_W_gf rfl rfl rfl ?_
                      show jw_W (js_S n) _ md_220 55 [some (.inr (.inr 103)), some (.inl (jk_h b m (jk_sm b m (s 0 2) (s 0 1)).2.1)), some (.inl (5 * (σ2 103 36))), some (.inl 3)] [.inr (.inr 122)] ((jw_up (jw_up (jw_up σ2 122 ((5 * (σ2 103 36)) + 0) (σ2 124 0)) 122 ((5 * (σ2 103 36)) + 1) (σ2 124 1)) 122 ((5 * (σ2 103 36)) + 2) (σ2 124 2))) _
                      refine jw_W_n 4 (i' := 59) (ls' := [some (.inr (.inr 103)), some (.inl (jk_h b m (jk_sm b m (s 0 2) (s 0 1)).2.1)), some (.inl (5 * (σ2 103 36))), some (.inl 3)]) (st' := [.inr (.inr 103), .inl ((5 * (σ2 103 36)) + 3), .inr (.inr 122)]) rfl ?_
                      refine jw_W_gf rfl rfl rfl ?_
                      show jw_W (js_S n) _ md_220 60 [some (.inr (.inr 103)), some (.inl (jk_h b m (jk_sm b m (s 0 2) (s 0 1)).2.1)), some (.inl (5 * (σ2 103 36))), some (.inl 3)] [.inl (σ2 103 11), .inl ((5 * (σ2 103 36)) + 3), .inr (.inr 122)] ((jw_up (jw_up (jw_up σ2 122 ((5 * (σ2 103 36)) + 0) (σ2 124 0)) 122 ((5 * (σ2 103 36)) + 1) (σ2 124 1)) 122 ((5 * (σ2 103 36)) + 2) (σ2 124 2))) _
                      refine jw_W_is rfl (by omega) rfl (by omega) (by omega) (by omega) ?_
                      refine jw_W_n 1 (i' := 62) (ls' := [some (.inr (.inr 103)), some (.inl (jk_h b m (jk_sm b m (s 0 2) (s 0 1)).2.1)), some (.inl (5 * (σ2 103 36))), some (.inl 3)]) (st' := [.inr (.inr 103)]) rfl ?_
                      refine jw_W_gf rfl rfl rfl ?_
                      show jw_W (js_S n) _ md_220 63 [some (.inr (.inr 103)), some (.inl (jk_h b m (jk_sm b m (s 0 2) (s 0 1)).2.1)), some (.inl (5 * (σ2 103 36))), some (.inl 3)] [.inr (.inr 122)] ((jw_up (jw_up (jw_up (jw_up σ2 122 ((5 * (σ2 103 36)) + 0) (σ2 124 0)) 122 ((5 * (σ2 103 36)) + 1) (σ2 124 1)) 122 ((5 * (σ2 103 36)) + 2) (σ2 124 2)) 122 ((5 * (σ2 103 36)) + 3) (σ2 103 11))) _
                      refine jw_W_n 5 (i' := 68) (ls' := [some (.inr (.inr 103)), some (.inl (jk_h b m (jk_sm b m (s 0 2) (s 0 1)).2.1)), some (.inl (5 * (σ2 103 36))), some (.inl 3)]) (st' := [.inl 62, .inl (jk_h b m (jk_sm b m (s 0 2) (s 0 1)).2.1), .inl ((5 * (σ2 103 36)) + 4), .inr (.inr 122)]) rfl ?_
                      refine jw_W_ic rfl (by unfold jw_rg; omega) (by unfold jw_rg; omega) (fun hc18 => ?_) (fun hc18 => ?_)
                      · have hc18 : (jk_h b m (jk_sm b m (s 0 2) (s 0 1)).2.1) ≠ 62 := hc18
                        refine jw_W_n 1 (i' := 72) (ls' := [some (.inr (.inr 103)), some (.inl (jk_h b m (jk_sm b m (s 0 2) (s 0 1)).2.1)), some (.inl (5 * (σ2 103 36))), some (.inl 3)]) (st' := [.inl 0, .inl ((5 * (σ2 103 36)) + 4), .inr (.inr 122)]) rfl ?_
                        refine jw_W_is rfl (by omega) rfl (by omega) (by omega) (by omega) ?_
                        refine jw_W_n 2 (i' := 75) (ls' := [some (.inr (.inr 103)), some (.inl (jk_h b m (jk_sm b m (s 0 2) (s 0 1)).2.1)), some (.inl (5 * (σ2 103 36))), some (.inl 3)]) (st' := [.inr (.inr 103), .inr (.inr 103)]) rfl ?_
                        refine jw_W_gf rfl rfl rfl ?_
                        show jw_W (js_S n) _ md_220 76 [some (.inr (.inr 103)), some (.inl (jk_h b m (jk_sm b m (s 0 2) (s 0 1)).2.1)), some (.inl (5 * (σ2 103 36))), some (.inl 3)] [.inl (σ2 103 36), .inr (.inr 103)] ((jw_up (jw_up (jw_up (jw_up (jw_up σ2 122 ((5 * (σ2 103 36)) + 0) (σ2 124 0)) 122 ((5 * (σ2 103 36)) + 1) (σ2 124 1)) 122 ((5 * (σ2 103 36)) + 2) (σ2 124 2)) 122 ((5 * (σ2 103 36)) + 3) (σ2 103 11)) 122 ((5 * (σ2 103 36)) + 4) 0)) _
                        refine jw_W_n 2 (i' := 78) (ls' := [some (.inr (.inr 103)), some (.inl (jk_h b m (jk_sm b m (s 0 2) (s 0 1)).2.1)), some (.inl (5 * (σ2 103 36))), some (.inl 3)]) (st' := [.inl (σ2 103 36 + 1), .inr (.inr 103)]) rfl ?_
                        refine jw_W_pf (a := σ2 103 36 + 1) rfl (by omega) rfl rfl rfl rfl rfl ?_
                        refine jw_W_n 1 (i' := 80) (ls' := [some (.inr (.inr 103)), some (.inl (jk_h b m (jk_sm b m (s 0 2) (s 0 1)).2.1)), some (.inl (5 * (σ2 103 36))), some (.inl 3)]) (st' := [.inl 1]) rfl ?_
                        refine jw_W_ir rfl ?_
                        obtain ⟨σ3, hs3⟩ : ∃ τ : jw_H, τ = jw_up (jw_up (jw_up (jw_up (jw_up (jw_up σ2 122 ((5 * (σ2 103 36)) + 0) (σ2 124 0)) 122 ((5 * (σ2 103 36)) + 1) (σ2 124 1)) 122 ((5 * (σ2 103 36)) + 2) (σ2 124 2)) 122 ((5 * (σ2 103 36)) + 3) (σ2 103 11)) 122 ((5 * (σ2 103 36)) + 4) 0) 103 36 (σ2 103 36 + 1) := ⟨_, rfl⟩
                        show jk_mp b m σ _ _ (jw_up (jw_up (jw_up (jw_up (jw_up (jw_up σ2 122 ((5 * (σ2 103 36)) + 0) (σ2 124 0)) 122 ((5 * (σ2 103 36)) + 1) (σ2 124 1)) 122 ((5 * (σ2 103 36)) + 2) (σ2 124 2)) 122 ((5 * (σ2 103 36)) + 3) (σ2 103 11)) 122 ((5 * (σ2 103 36)) + 4) 0) 103 36 (σ2 103 36 + 1))
                        rw [← hs3]
                        have f3 : jk_fm σ σ3 := by rw [hs3]; exact jk_fm_up (jk_fm_up (jk_fm_up (jk_fm_up (jk_fm_up (jk_fm_up f2 (by omega)) (by omega)) (by omega)) (by omega)) (by omega)) (by omega)
                        have c3 : ∀ c, c ≠ 103 → c ≠ 122 → σ3 c = σ2 c := fun c d1 d2 => by rw [hs3, jw_up_out _ _ _ d1, jw_up_out _ _ _ d2, jw_up_out _ _ _ d2, jw_up_out _ _ _ d2, jw_up_out _ _ _ d2, jw_up_out _ _ _ d2]
                        have j3 : ∀ j, j ≠ 36 → σ3 103 j = σ2 103 j := fun j hj => by rw [hs3, jw_up_ne _ (by omega), jw_up_out _ _ _ (by omega), jw_up_out _ _ _ (by omega), jw_up_out _ _ _ (by omega), jw_up_out _ _ _ (by omega), jw_up_out _ _ _ (by omega)]
                        have e3 : σ3 103 36 = σ2 103 36 + 1 := by rw [hs3]; exact jw_up_eq _ _ _ _
                        have r2 : ∀ j, j < 5 * σ2 103 36 → σ3 122 j = σ2 122 j := fun j hj => by rw [hs3, jw_up_out _ _ _ (by omega), jw_up_ne _ (by omega), jw_up_ne _ (by omega), jw_up_ne _ (by omega), jw_up_ne _ (by omega), jw_up_ne _ (by omega)]
                        have r3 : ∀ j, 0 ≤ j → j < 3 → σ3 122 (5 * σ2 103 36 + j) = σ2 124 j := by
                          intro j j0 j1
                          rw [hs3, jw_up_out _ _ _ (by omega), jw_up_ne _ (by omega), jw_up_ne _ (by omega)]
                          rcases (show j = 0 ∨ j = 1 ∨ j = 2 by omega) with rfl | rfl | rfl
                          · rw [jw_up_ne _ (by omega), jw_up_ne _ (by omega)]
                            exact jw_up_eq _ _ _ _
                          · rw [jw_up_ne _ (by omega)]
                            exact jw_up_eq _ _ _ _
                          · exact jw_up_eq _ _ _ _
                        have r4 : σ3 122 (5 * σ2 103 36 + 3) = σ2 103 11 := by
                          rw [hs3, jw_up_out _ _ _ (by omega), jw_up_ne _ (by omega)]
                          exact jw_up_eq _ _ _ _
                        have r5 : σ3 122 (5 * σ2 103 36 + 4) = 0 := by
                          rw [hs3, jw_up_out _ _ _ (by omega)]
                          exact jw_up_eq _ _ _ _
                        exact jk_keepR_end hl0 hS ⟨ht, em, h8, h34, h35, h36, h37⟩ hf h18 hrow (kd := 0) (by omega) hN f2 j2 c2 hv hp f3 c3 j3 e3 r2 r3 r4 r5 h4
                      · have hc18 : (jk_h b m (jk_sm b m (s 0 2) (s 0 1)).2.1) = 62 := Classical.not_not.mp hc18
                        refine jw_W_n 2 (i' := 72) (ls' := [some (.inr (.inr 103)), some (.inl (jk_h b m (jk_sm b m (s 0 2) (s 0 1)).2.1)), some (.inl (5 * (σ2 103 36))), some (.inl 3)]) (st' := [.inl 1, .inl ((5 * (σ2 103 36)) + 4), .inr (.inr 122)]) rfl ?_
                        refine jw_W_is rfl (by omega) rfl (by omega) (by omega) (by omega) ?_
                        refine jw_W_n 2 (i' := 75) (ls' := [some (.inr (.inr 103)), some (.inl (jk_h b m (jk_sm b m (s 0 2) (s 0 1)).2.1)), some (.inl (5 * (σ2 103 36))), some (.inl 3)]) (st' := [.inr (.inr 103), .inr (.inr 103)]) rfl ?_
                        refine jw_W_gf rfl rfl rfl ?_
                        show jw_W (js_S n) _ md_220 76 [some (.inr (.inr 103)), some (.inl (jk_h b m (jk_sm b m (s 0 2) (s 0 1)).2.1)), some (.inl (5 * (σ2 103 36))), some (.inl 3)] [.inl (σ2 103 36), .inr (.inr 103)] ((jw_up (jw_up (jw_up (jw_up (jw_up σ2 122 ((5 * (σ2 103 36)) + 0) (σ2 124 0)) 122 ((5 * (σ2 103 36)) + 1) (σ2 124 1)) 122 ((5 * (σ2 103 36)) + 2) (σ2 124 2)) 122 ((5 * (σ2 103 36)) + 3) (σ2 103 11)) 122 ((5 * (σ2 103 36)) + 4) 1)) _
                        refine jw_W_n 2 (i' := 78) (ls' := [some (.inr (.inr 103)), some (.inl (jk_h b m (jk_sm b m (s 0 2) (s 0 1)).2.1)), some (.inl (5 * (σ2 103 36))), some (.inl 3)]) (st' := [.inl (σ2 103 36 + 1), .inr (.inr 103)]) rfl ?_
                        refine jw_W_pf (a := σ2 103 36 + 1) rfl (by omega) rfl rfl rfl rfl rfl ?_
                        refine jw_W_n 1 (i' := 80) (ls' := [some (.inr (.inr 103)), some (.inl (jk_h b m (jk_sm b m (s 0 2) (s 0 1)).2.1)), some (.inl (5 * (σ2 103 36))), some (.inl 3)]) (st' := [.inl 1]) rfl ?_
                        refine jw_W_ir rfl ?_
                        obtain ⟨σ3, hs3⟩ : ∃ τ : jw_H, τ = jw_up (jw_up (jw_up (jw_up (jw_up (jw_up σ2 122 ((5 * (σ2 103 36)) + 0) (σ2 124 0)) 122 ((5 * (σ2 103 36)) + 1) (σ2 124 1)) 122 ((5 * (σ2 103 36)) + 2) (σ2 124 2)) 122 ((5 * (σ2 103 36)) + 3) (σ2 103 11)) 122 ((5 * (σ2 103 36)) + 4) 1) 103 36 (σ2 103 36 + 1) := ⟨_, rfl⟩
                        show jk_mp b m σ _ _ (jw_up (jw_up (jw_up (jw_up (jw_up (jw_up σ2 122 ((5 * (σ2 103 36)) + 0) (σ2 124 0)) 122 ((5 * (σ2 103 36)) + 1) (σ2 124 1)) 122 ((5 * (σ2 103 36)) + 2) (σ2 124 2)) 122 ((5 * (σ2 103 36)) + 3) (σ2 103 11)) 122 ((5 * (σ2 103 36)) + 4) 1) 103 36 (σ2 103 36 + 1))
                        rw [← hs3]
                        have f3 : jk_fm σ σ3 := by rw [hs3]; exact jk_fm_up (jk_fm_up (jk_fm_up (jk_fm_up (jk_fm_up (jk_fm_up f2 (by omega)) (by omega)) (by omega)) (by omega)) (by omega)) (by omega)
                        have c3 : ∀ c, c ≠ 103 → c ≠ 122 → σ3 c = σ2 c := fun c d1 d2 => by rw [hs3, jw_up_out _ _ _ d1, jw_up_out _ _ _ d2, jw_up_out _ _ _ d2, jw_up_out _ _ _ d2, jw_up_out _ _ _ d2, jw_up_out _ _ _ d2]
                        have j3 : ∀ j, j ≠ 36 → σ3 103 j = σ2 103 j := fun j hj => by rw [hs3, jw_up_ne _ (by omega), jw_up_out _ _ _ (by omega), jw_up_out _ _ _ (by omega), jw_up_out _ _ _ (by omega), jw_up_out _ _ _ (by omega), jw_up_out _ _ _ (by omega)]
                        have e3 : σ3 103 36 = σ2 103 36 + 1 := by rw [hs3]; exact jw_up_eq _ _ _ _
                        have r2 : ∀ j, j < 5 * σ2 103 36 → σ3 122 j = σ2 122 j := fun j hj => by rw [hs3, jw_up_out _ _ _ (by omega), jw_up_ne _ (by omega), jw_up_ne _ (by omega), jw_up_ne _ (by omega), jw_up_ne _ (by omega), jw_up_ne _ (by omega)]
                        have r3 : ∀ j, 0 ≤ j → j < 3 → σ3 122 (5 * σ2 103 36 + j) = σ2 124 j := by
                          intro j j0 j1
                          rw [hs3, jw_up_out _ _ _ (by omega), jw_up_ne _ (by omega), jw_up_ne _ (by omega)]
                          rcases (show j = 0 ∨ j = 1 ∨ j = 2 by omega) with rfl | rfl | rfl
                          · rw [jw_up_ne _ (by omega), jw_up_ne _ (by omega)]
                            exact jw_up_eq _ _ _ _
                          · rw [jw_up_ne _ (by omega)]
                            exact jw_up_eq _ _ _ _
                          · exact jw_up_eq _ _ _ _
                        have r4 : σ3 122 (5 * σ2 103 36 + 3) = σ2 103 11 := by
                          rw [hs3, jw_up_out _ _ _ (by omega), jw_up_ne _ (by omega)]
                          exact jw_up_eq _ _ _ _
                        have r5 : σ3 122 (5 * σ2 103 36 + 4) = 1 := by
                          rw [hs3, jw_up_out _ _ _ (by omega)]
                          exact jw_up_eq _ _ _ _
                        exact jk_keepR_end hl0 hS ⟨ht, em, h8, h34, h35, h36, h37⟩ hf h18 hrow (kd := 1) (by omega) hN f2 j2 c2 hv hp f3 c3 j3 e3 r2 r3 r4 r5 h4
                    · exact absurd hc17 (show ¬ ¬ ((3 : Int) ≥ 3) by omega)
            · exact absurd hc13 (show ¬ ¬ ((1 : Int) ≠ 0) by omega)
        · have hc11 : ¬ ((jk_h b m (jk_sm b m (s 0 2) (s 0 1)).2.1) = 62) := hc11
          refine jw_W_n 3 (i' := 17) (ls' := [some (.inr (.inr 103)), some (.inl (jk_h b m (jk_sm b m (s 0 2) (s 0 1)).2.1)), none, none]) (st' := [.inr (.inr 103), .inl 1, .inr (.inr 103)]) rfl ?_
          refine jw_W_gf rfl rfl rfl ?_
          show jw_W (js_S n) _ md_220 18 [some (.inr (.inr 103)), some (.inl (jk_h b m (jk_sm b m (s 0 2) (s 0 1)).2.1)), none, none] [.inl (σ1 103 8), .inl 1, .inr (.inr 103)] σ1 _
          refine jw_W_call (as := [.inr (.inr 103), .inl 1, .inl (σ1 103 8)]) (rest := []) rfl rfl rfl rfl (Nat.le_of_ble_eq_true rfl) (.inr rfl) (jk_wrongAt (by omega) (by omega)) (by omega) ?_ rfl
          rintro r1 σz ⟨rfl, hs⟩
          rename jw_H => σw
          show jw_W (js_S n) _ md_220 19 [some (.inr (.inr 103)), some (.inl (jk_h b m (jk_sm b m (s 0 2) (s 0 1)).2.1)), none, none] [.inl 0] σw _
          refine jw_W_ir rfl ?_
          rw [jk_pk_2 hS (by omega)]
          refine jk_mp_bad (by rw [hs]; exact jk_fm_up hfm (by omega)) (by omega) ?_
          rw [hs, jw_up_eq, h18]
    · exact absurd hc2 (show ¬ ¬ ((1 : Int) ≠ 0) by omega)

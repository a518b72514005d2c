/-! ===== texts: a term (reference) ===== -/
def jk_ft (σ σ' : jw_H) : Prop := (∀ o, o ≠ 103 → o ≠ 124 → σ' o = σ o) ∧ ∀ j, j ≠ 8 → j ≠ 10 → j ≠ 11 → σ' 103 j = σ 103 j
theorem jk_ft_rf (σ : jw_H) : jk_ft σ σ := ⟨fun _ _ _ => rfl, fun _ _ _ _ => rfl⟩
theorem jk_ft_up {σ σ' : jw_H} {o : Nat} {j v : Int} (h : jk_ft σ σ') (hj : (o = 103 ∧ (j = 8 ∨ j = 10 ∨ j = 11)) ∨ o = 124) : jk_ft σ (jw_up σ' o j v) := by
  refine ⟨fun o' h1 h2 => ?_, fun j' h1 h2 h3 => ?_⟩
  · rw [jw_up_out _ _ _ (by omega)]
    exact h.1 o' h1 h2
  · rcases hj with hj | hj
    · rw [hj.1, jw_up_ne _ (by omega)]
      exact h.2 j' h1 h2 h3
    · rw [jw_up_out _ _ _ (by omega)]
      exact h.2 j' h1 h2 h3
/-- a coefficient ahead of a letter: what it is, how many bytes -/
def jk_cf (x c k : Int) : Prop := ((x = 50 ∨ x = 51) ∧ c = x - 48 ∧ k = 1) ∨ (¬ (x = 50 ∨ x = 51) ∧ c = 1 ∧ k = 0)
theorem jk_readsTerm {n : Nat} {σ : jw_H} {b : Int → Int} (ht : jk_tr σ b) (hp9 : σ 103 8 ≤ 90000) (hq : 0 ≤ σ 103 34 ∧ σ 103 34 ≤ 3) {s : Int} (hs1 : s = 1 ∨ s = -1) (hrow : ∀ j, 0 ≤ j → j < 3 → -3 ≤ σ 124 j ∧ σ 124 j ≤ 3)  : jw_T (js_S n) 3 216 [.inr (.inr 103), .inl s] σ (fun r σ' => ∃ c k, jk_cf (jk_h b (σ 103 9) (σ 103 8)) c k ∧ ((r = some (.inl 0) ∧ ¬ jk_let (jk_h b (σ 103 9) (σ 103 8 + k)) ∧ jk_ft σ σ' ∧ σ' 103 10 = -1000 * 1 - (σ 103 8 + k)) ∨ (r = some (.inl 0) ∧ jk_let (jk_h b (σ 103 9) (σ 103 8 + k)) ∧ σ 103 34 ≤ jk_h b (σ 103 9) (σ 103 8 + k) - 120 ∧ jk_ft σ σ' ∧ σ' 103 10 = -1000 * 7 - (σ 103 8 + k)) ∨ (r = some (.inl 0) ∧ jk_let (jk_h b (σ 103 9) (σ 103 8 + k)) ∧ jk_h b (σ 103 9) (σ 103 8 + k) - 120 < σ 103 34 ∧ ¬ (-3 ≤ σ 124 (jk_h b (σ 103 9) (σ 103 8 + k) - 120) + s * c ∧ σ 124 (jk_h b (σ 103 9) (σ 103 8 + k) - 120) + s * c ≤ 3) ∧ jk_ft σ σ' ∧ σ' 103 10 = -1000 * 3 - (σ 103 8 + k)) ∨ (r = some (.inl 1) ∧ jk_let (jk_h b (σ 103 9) (σ 103 8 + k)) ∧ jk_h b (σ 103 9) (σ 103 8 + k) - 120 < σ 103 34 ∧ (-3 ≤ σ 124 (jk_h b (σ 103 9) (σ 103 8 + k) - 120) + s * c ∧ σ 124 (jk_h b (σ 103 9) (σ 103 8 + k) - 120) + s * c ≤ 3) ∧ jk_ft σ σ' ∧ σ' 124 (jk_h b (σ 103 9) (σ 103 8 + k) - 120) = σ 124 (jk_h b (σ 103 9) (σ 103 8 + k) - 120) + s * c ∧ (∀ j, j ≠ jk_h b (σ 103 9) (σ 103 8 + k) - 120 → σ' 124 j = σ 124 j) ∧ σ' 103 8 = σ 103 8 + k + 1))) := by
  refine jw_T_of (D := 2) (M := mm_216) rfl (Nat.le_of_ble_eq_true rfl) (ls0 := [some (.inr (.inr 103)), some (.inl s), none, none]) rfl ?_ (by rintro _ _ ⟨c, k, -, ⟨rfl, -⟩ | ⟨rfl, -⟩ | ⟨rfl, -⟩ | ⟨rfl, -⟩⟩ <;> rfl)
  have hhr := jk_h_rg (b := b) (n := σ 103 9) (i := σ 103 8) ht.1.1 (fun j j0 j1 => (ht.2.2 j j0 j1).2.2)
  have hq0 := ht.1
  refine jw_W_n 3 (i' := 3) (ls' := [some (.inr (.inr 103)), some (.inl s), some (.inl 1), none]) (st' := [.inr (.inr 103)]) rfl ?_
  refine jw_W_call (as := [.inr (.inr 103)]) (rest := []) rfl rfl rfl rfl (Nat.le_of_ble_eq_true rfl) (.inr rfl) (jk_hereR ht) (by omega) ?_ rfl
  rintro r1 σz ⟨rfl, hs⟩
  rw [hs]
  show jw_W (js_S n) _ md_216 4 [some (.inr (.inr 103)), some (.inl s), some (.inl 1), none] [.inl (jk_h b (σ 103 9) (σ 103 8))] σ _
  refine jw_W_n 1 (i' := 5) (ls' := [some (.inr (.inr 103)), some (.inl s), some (.inl 1), none]) (st' := [.inl 50, .inl (jk_h b (σ 103 9) (σ 103 8))]) rfl ?_
  refine jw_W_ic rfl (by unfold jw_rg; omega) (by unfold jw_rg; omega) (fun hc1 => ?_) (fun hc1 => ?_)
  · have hc1 : (jk_h b (σ 103 9) (σ 103 8)) = 50 := hc1
    refine jw_W_n 1 (i' := 11) (ls' := [some (.inr (.inr 103)), some (.inl s), some (.inl 1), none]) (st' := [.inr (.inr 103)]) rfl ?_
    refine jw_W_call (as := [.inr (.inr 103)]) (rest := []) rfl rfl rfl rfl (Nat.le_of_ble_eq_true rfl) (.inr rfl) (jk_hereR ht) (by omega) ?_ rfl
    rintro r1 σz ⟨rfl, hs⟩
    rw [hs]
    show jw_W (js_S n) _ md_216 12 [some (.inr (.inr 103)), some (.inl s), some (.inl 1), none] [.inl (jk_h b (σ 103 9) (σ 103 8))] σ _
    refine jw_W_n 5 (i' := 17) (ls' := [some (.inr (.inr 103)), some (.inl s), some (.inl ((jk_h b (σ 103 9) (σ 103 8)) - 48)), none]) (st' := [.inr (.inr 103), .inr (.inr 103)]) rfl ?_
    refine jw_W_gf rfl rfl rfl ?_
    show jw_W (js_S n) _ md_216 18 [some (.inr (.inr 103)), some (.inl s), some (.inl ((jk_h b (σ 103 9) (σ 103 8)) - 48)), none] [.inl (σ 103 8), .inr (.inr 103)] σ _
    refine jw_W_n 2 (i' := 20) (ls' := [some (.inr (.inr 103)), some (.inl s), some (.inl ((jk_h b (σ 103 9) (σ 103 8)) - 48)), none]) (st' := [.inl (σ 103 8 + 1), .inr (.inr 103)]) rfl ?_
    refine jw_W_pf (a := σ 103 8 + 1) rfl (by omega) rfl rfl rfl rfl rfl ?_
    obtain ⟨σa, hsa⟩ : ∃ s, s = jw_up σ 103 8 (σ 103 8 + 1) := ⟨_, rfl⟩
    show jw_W (js_S n) _ _ _ _ _ (jw_up σ 103 8 (σ 103 8 + 1)) _
    rw [← hsa]
    have hfa : jk_f8 σ σa := by rw [hsa]; exact jk_f8_up (jk_f8_rf σ) (by omega)
    have e8a : σa 103 8 = σ 103 8 + 1 := by rw [hsa, jw_up_eq]
    have e9a : σa 103 9 = σ 103 9 := hfa.2 9 (by omega) (by omega) (by omega)
    have hta : jk_tr σa b := jk_tr_f8 ht hfa (by omega)
    have e34 : σa 103 34 = σ 103 34 := hfa.2 34 (by omega) (by omega) (by omega)
    have hga : jk_ft σ σa := by rw [hsa]; exact jk_ft_up (jk_ft_rf σ) (by omega)
    have eca : σa 124 = σ 124 := hfa.1 124 (by omega)
    refine jw_W_n 1 (i' := 22) (ls' := [some (.inr (.inr 103)), some (.inl s), some (.inl ((jk_h b (σ 103 9) (σ 103 8)) - 48)), none]) (st' := [.inr (.inr 103)]) rfl ?_
    refine jw_W_call (as := [.inr (.inr 103)]) (rest := []) rfl rfl rfl rfl (Nat.le_of_ble_eq_true rfl) (.inr rfl) (jk_readsQ hta (by omega)) (by omega) ?_ rfl
    rintro r1 σz (⟨rfl, hl, hs⟩ | ⟨rfl, hl, hlt, hs⟩ | ⟨rfl, hl, hlt, hs⟩)
    · rename jw_H => σf
      rw [e9a, e8a] at hl
      have hcf : jk_cf (jk_h b (σ 103 9) (σ 103 8)) ((jk_h b (σ 103 9) (σ 103 8) - 48)) 1 := by unfold jk_cf; omega
      have epos : σ 103 8 + 1 = σ 103 8 + 1 := by omega
      have hff : jk_ft σ σf := by rw [hs]; exact jk_ft_up hga (by omega)
      have e10f : σf 103 10 = -1000 * 1 - (σ 103 8 + 1) := by rw [hs, jw_up_eq]; omega
      show jw_W (js_S n) _ md_216 23 [some (.inr (.inr 103)), some (.inl s), some (.inl ((jk_h b (σ 103 9) (σ 103 8)) - 48)), none] [.inl 0] σf _
      refine jw_W_if rfl (by unfold jw_rg; omega) (fun hc2 => ?_) (fun hc2 => ?_)
      · exact absurd hc2 (show ¬ ((0 : Int) ≠ 0) by omega)
      · clear hc2
        refine jw_W_n 1 (i' := 25) (ls' := [some (.inr (.inr 103)), some (.inl s), some (.inl ((jk_h b (σ 103 9) (σ 103 8)) - 48)), none]) (st' := [.inl 0]) rfl ?_
        refine jw_W_ir rfl ?_
        first | exact ⟨_, _, hcf, .inr (.inl ⟨rfl, by rw [← epos]; exact hl, by rw [← epos]; exact hlt, hff, e10f⟩)⟩ | exact ⟨_, _, hcf, .inl ⟨rfl, by rw [← epos]; exact hl, hff, e10f⟩⟩
    · rename jw_H => σf
      rw [e9a, e8a] at hl hlt
      rw [e34] at hlt
      have hcf : jk_cf (jk_h b (σ 103 9) (σ 103 8)) ((jk_h b (σ 103 9) (σ 103 8) - 48)) 1 := by unfold jk_cf; omega
      have epos : σ 103 8 + 1 = σ 103 8 + 1 := by omega
      have hff : jk_ft σ σf := by rw [hs]; exact jk_ft_up hga (by omega)
      have e10f : σf 103 10 = -1000 * 7 - (σ 103 8 + 1) := by rw [hs, jw_up_eq]; omega
      show jw_W (js_S n) _ md_216 23 [some (.inr (.inr 103)), some (.inl s), some (.inl ((jk_h b (σ 103 9) (σ 103 8)) - 48)), none] [.inl 0] σf _
      refine jw_W_if rfl (by unfold jw_rg; omega) (fun hc3 => ?_) (fun hc3 => ?_)
      · exact absurd hc3 (show ¬ ((0 : Int) ≠ 0) by omega)
      · clear hc3
        refine jw_W_n 1 (i' := 25) (ls' := [some (.inr (.inr 103)), some (.inl s), some (.inl ((jk_h b (σ 103 9) (σ 103 8)) - 48)), none]) (st' := [.inl 0]) rfl ?_
        refine jw_W_ir rfl ?_
        first | exact ⟨_, _, hcf, .inr (.inl ⟨rfl, by rw [← epos]; exact hl, by rw [← epos]; exact hlt, hff, e10f⟩)⟩ | exact ⟨_, _, hcf, .inl ⟨rfl, by rw [← epos]; exact hl, hff, e10f⟩⟩
    · rename jw_H => σq
      rw [e9a, e8a] at hl hlt
      rw [e34] at hlt
      have hcf : jk_cf (jk_h b (σ 103 9) (σ 103 8)) ((jk_h b (σ 103 9) (σ 103 8) - 48)) 1 := by unfold jk_cf; omega
      have epos : σ 103 8 + 1 = σ 103 8 + 1 := by omega
      have hgq : jk_ft σ σq := by rw [hs]; exact jk_ft_up hga (by omega)
      have eq11 : σq 103 11 = jk_h b (σ 103 9) (σ 103 8 + 1) - 120 := by rw [hs, jw_up_eq]; rw [e9a, e8a]
      have eq8 : σq 103 8 = σ 103 8 + 1 := by rw [hs, jw_up_ne _ (by omega)]; exact e8a
      have eqc : σq 124 = σ 124 := by rw [hs, jw_up_out _ _ _ (by omega)]; exact eca
      have hlz := hl
      unfold jk_let at hlz
      have hrw := hrow (σq 103 11) (by omega) (by omega)
      rw [← eqc] at hrw
      have hsc : -3 ≤ s * (jk_h b (σ 103 9) (σ 103 8) - 48) ∧ s * (jk_h b (σ 103 9) (σ 103 8) - 48) ≤ 3 := by rcases hs1 with e | e <;> rw [e] <;> omega
      show jw_W (js_S n) _ md_216 23 [some (.inr (.inr 103)), some (.inl s), some (.inl ((jk_h b (σ 103 9) (σ 103 8)) - 48)), none] [.inl 1] σq _
      refine jw_W_if rfl (by unfold jw_rg; omega) (fun hc4 => ?_) (fun hc4 => ?_)
      · clear hc4
        refine jw_W_n 1 (i' := 27) (ls' := [some (.inr (.inr 103)), some (.inl s), some (.inl ((jk_h b (σ 103 9) (σ 103 8)) - 48)), none]) (st' := [.inr (.inr 103)]) rfl ?_
        refine jw_W_gf rfl rfl rfl ?_
        show jw_W (js_S n) _ md_216 28 [some (.inr (.inr 103)), some (.inl s), some (.inl ((jk_h b (σ 103 9) (σ 103 8)) - 48)), none] [.inr (.inr 124)] σq _
        refine jw_W_n 1 (i' := 29) (ls' := [some (.inr (.inr 103)), some (.inl s), some (.inl ((jk_h b (σ 103 9) (σ 103 8)) - 48)), none]) (st' := [.inr (.inr 103), .inr (.inr 124)]) rfl ?_
        refine jw_W_gf rfl rfl rfl ?_
        show jw_W (js_S n) _ md_216 30 [some (.inr (.inr 103)), some (.inl s), some (.inl ((jk_h b (σ 103 9) (σ 103 8)) - 48)), none] [.inl (σq 103 11), .inr (.inr 124)] σq _
        refine jw_W_ia rfl rfl (by omega) (by omega) (by omega) ?_
        show jw_W (js_S n) _ md_216 31 [some (.inr (.inr 103)), some (.inl s), some (.inl ((jk_h b (σ 103 9) (σ 103 8)) - 48)), none] [.inl (σq 124 (σq 103 11))] σq _
        refine jw_W_n 8 (i' := 39) (ls' := [some (.inr (.inr 103)), some (.inl s), some (.inl ((jk_h b (σ 103 9) (σ 103 8)) - 48)), some (.inl ((σq 124 (σq 103 11)) + (s * ((jk_h b (σ 103 9) (σ 103 8)) - 48))))]) (st' := [.inl 3, .inl ((-3)), .inl ((σq 124 (σq 103 11)) + (s * ((jk_h b (σ 103 9) (σ 103 8)) - 48)))]) rfl ?_
        refine jw_W_call (as := [.inl ((σq 124 (σq 103 11)) + (s * ((jk_h b (σ 103 9) (σ 103 8)) - 48))), .inl ((-3)), .inl 3]) (rest := []) rfl rfl rfl rfl (Nat.le_of_ble_eq_true rfl) (.inl rfl) (jm_in (by unfold jw_rg; omega) (by unfold jw_rg; omega) (by unfold jw_rg; omega)) (by omega) ?_ rfl
        rintro r1 σz (⟨rfl, hs, q1⟩ | ⟨rfl, hs, q1⟩)
        · rw [hs]
          show jw_W (js_S n) _ md_216 40 [some (.inr (.inr 103)), some (.inl s), some (.inl ((jk_h b (σ 103 9) (σ 103 8)) - 48)), some (.inl ((σq 124 (σq 103 11)) + (s * ((jk_h b (σ 103 9) (σ 103 8)) - 48))))] [.inl 1] σq _
          refine jw_W_if rfl (by unfold jw_rg; omega) (fun hc5 => ?_) (fun hc5 => ?_)
          · clear hc5
            refine jw_W_n 1 (i' := 48) (ls' := [some (.inr (.inr 103)), some (.inl s), some (.inl ((jk_h b (σ 103 9) (σ 103 8)) - 48)), some (.inl ((σq 124 (σq 103 11)) + (s * ((jk_h b (σ 103 9) (σ 103 8)) - 48))))]) (st' := [.inr (.inr 103)]) rfl ?_
            refine jw_W_gf rfl rfl rfl ?_
            show jw_W (js_S n) _ md_216 49 [some (.inr (.inr 103)), some (.inl s), some (.inl ((jk_h b (σ 103 9) (σ 103 8)) - 48)), some (.inl ((σq 124 (σq 103 11)) + (s * ((jk_h b (σ 103 9) (σ 103 8)) - 48))))] [.inr (.inr 124)] σq _
            refine jw_W_n 1 (i' := 50) (ls' := [some (.inr (.inr 103)), some (.inl s), some (.inl ((jk_h b (σ 103 9) (σ 103 8)) - 48)), some (.inl ((σq 124 (σq 103 11)) + (s * ((jk_h b (σ 103 9) (σ 103 8)) - 48))))]) (st' := [.inr (.inr 103), .inr (.inr 124)]) rfl ?_
            refine jw_W_gf rfl rfl rfl ?_
            show jw_W (js_S n) _ md_216 51 [some (.inr (.inr 103)), some (.inl s), some (.inl ((jk_h b (σ 103 9) (σ 103 8)) - 48)), some (.inl ((σq 124 (σq 103 11)) + (s * ((jk_h b (σ 103 9) (σ 103 8)) - 48))))] [.inl (σq 103 11), .inr (.inr 124)] σq _
            refine jw_W_n 1 (i' := 52) (ls' := [some (.inr (.inr 103)), some (.inl s), some (.inl ((jk_h b (σ 103 9) (σ 103 8)) - 48)), some (.inl ((σq 124 (σq 103 11)) + (s * ((jk_h b (σ 103 9) (σ 103 8)) - 48))))]) (st' := [.inl ((σq 124 (σq 103 11)) + (s * ((jk_h b (σ 103 9) (σ 103 8)) - 48))), .inl (σq 103 11), .inr (.inr 124)]) rfl ?_
            refine jw_W_is rfl (by omega) rfl (by omega) (by omega) (by omega) ?_
            obtain ⟨σr, hsr⟩ : ∃ τ : jw_H, τ = jw_up σq 124 (σq 103 11) ((σq 124 (σq 103 11)) + (s * ((jk_h b (σ 103 9) (σ 103 8)) - 48))) := ⟨_, rfl⟩
            show jw_W (js_S n) _ _ _ _ _ (jw_up σq 124 (σq 103 11) ((σq 124 (σq 103 11)) + (s * ((jk_h b (σ 103 9) (σ 103 8)) - 48)))) _
            rw [← hsr]
            have hgr : jk_ft σ σr := by rw [hsr]; exact jk_ft_up hgq (by omega)
            have er8 : σr 103 8 = σq 103 8 := by rw [hsr, jw_up_out _ _ _ (by omega)]
            have erv : σr 124 (σq 103 11) = (σq 124 (σq 103 11)) + (s * ((jk_h b (σ 103 9) (σ 103 8)) - 48)) := by rw [hsr, jw_up_eq]
            have ern : ∀ j, j ≠ σq 103 11 → σr 124 j = σ 124 j := fun j hj => by rw [hsr, jw_up_ne _ (by omega), eqc]
            refine jw_W_n 2 (i' := 55) (ls' := [some (.inr (.inr 103)), some (.inl s), some (.inl ((jk_h b (σ 103 9) (σ 103 8)) - 48)), some (.inl ((σq 124 (σq 103 11)) + (s * ((jk_h b (σ 103 9) (σ 103 8)) - 48))))]) (st' := [.inr (.inr 103), .inr (.inr 103)]) rfl ?_
            refine jw_W_gf rfl rfl rfl ?_
            show jw_W (js_S n) _ md_216 56 [some (.inr (.inr 103)), some (.inl s), some (.inl ((jk_h b (σ 103 9) (σ 103 8)) - 48)), some (.inl ((σq 124 (σq 103 11)) + (s * ((jk_h b (σ 103 9) (σ 103 8)) - 48))))] [.inl (σr 103 8), .inr (.inr 103)] σr _
            refine jw_W_n 2 (i' := 58) (ls' := [some (.inr (.inr 103)), some (.inl s), some (.inl ((jk_h b (σ 103 9) (σ 103 8)) - 48)), some (.inl ((σq 124 (σq 103 11)) + (s * ((jk_h b (σ 103 9) (σ 103 8)) - 48))))]) (st' := [.inl (σr 103 8 + 1), .inr (.inr 103)]) rfl ?_
            refine jw_W_pf (a := σr 103 8 + 1) rfl (by omega) rfl rfl rfl rfl rfl ?_
            refine jw_W_n 1 (i' := 60) (ls' := [some (.inr (.inr 103)), some (.inl s), some (.inl ((jk_h b (σ 103 9) (σ 103 8)) - 48)), some (.inl ((σq 124 (σq 103 11)) + (s * ((jk_h b (σ 103 9) (σ 103 8)) - 48))))]) (st' := [.inl 1]) rfl ?_
            refine jw_W_ir rfl ?_
            refine ⟨_, _, hcf, .inr (.inr (.inr ⟨rfl, by rw [← epos]; exact hl, by rw [← epos]; exact hlt, ?_, jk_ft_up hgr (by omega), ?_, ?_, ?_⟩))⟩
            · rw [← epos, ← eq11, ← eqc]
              omega
            · rw [← epos, ← eq11]
              show jw_up σr 103 8 (σr 103 8 + 1) 124 (σq 103 11) = _
              rw [jw_up_out _ _ _ (by omega), erv, eqc]
            · intro j hj
              rw [← epos, ← eq11] at hj
              show jw_up σr 103 8 (σr 103 8 + 1) 124 j = _
              rw [jw_up_out _ _ _ (by omega)]
              exact ern j hj
            · show jw_up σr 103 8 (σr 103 8 + 1) 103 8 = _
              rw [jw_up_eq]
              omega
          · exact absurd hc5 (show ¬ ¬ ((1 : Int) ≠ 0) by omega)
        · rw [hs]
          show jw_W (js_S n) _ md_216 40 [some (.inr (.inr 103)), some (.inl s), some (.inl ((jk_h b (σ 103 9) (σ 103 8)) - 48)), some (.inl ((σq 124 (σq 103 11)) + (s * ((jk_h b (σ 103 9) (σ 103 8)) - 48))))] [.inl 0] σq _
          refine jw_W_if rfl (by unfold jw_rg; omega) (fun hc6 => ?_) (fun hc6 => ?_)
          · exact absurd hc6 (show ¬ ((0 : Int) ≠ 0) by omega)
          · clear hc6
            refine jw_W_n 3 (i' := 44) (ls' := [some (.inr (.inr 103)), some (.inl s), some (.inl ((jk_h b (σ 103 9) (σ 103 8)) - 48)), some (.inl ((σq 124 (σq 103 11)) + (s * ((jk_h b (σ 103 9) (σ 103 8)) - 48))))]) (st' := [.inr (.inr 103), .inl 3, .inr (.inr 103)]) rfl ?_
            refine jw_W_gf rfl rfl rfl ?_
            show jw_W (js_S n) _ md_216 45 [some (.inr (.inr 103)), some (.inl s), some (.inl ((jk_h b (σ 103 9) (σ 103 8)) - 48)), some (.inl ((σq 124 (σq 103 11)) + (s * ((jk_h b (σ 103 9) (σ 103 8)) - 48))))] [.inl (σq 103 8), .inl 3, .inr (.inr 103)] σq _
            refine jw_W_call (as := [.inr (.inr 103), .inl 3, .inl (σq 103 8)]) (rest := []) rfl rfl rfl rfl (Nat.le_of_ble_eq_true rfl) (.inr rfl) (jk_wrongAt (by omega) (by omega)) (by omega) ?_ rfl
            rintro r1 σz ⟨rfl, hs⟩
            rename jw_H => σg
            have hfg : jk_ft σ σg := by rw [hs]; exact jk_ft_up hgq (by omega)
            have e10g : σg 103 10 = -1000 * 3 - σq 103 8 := by rw [hs, jw_up_eq]
            show jw_W (js_S n) _ md_216 46 [some (.inr (.inr 103)), some (.inl s), some (.inl ((jk_h b (σ 103 9) (σ 103 8)) - 48)), some (.inl ((σq 124 (σq 103 11)) + (s * ((jk_h b (σ 103 9) (σ 103 8)) - 48))))] [.inl 0] σg _
            refine jw_W_ir rfl ?_
            refine ⟨_, _, hcf, .inr (.inr (.inl ⟨rfl, by rw [← epos]; exact hl, by rw [← epos]; exact hlt, ?_, hfg, by omega⟩))⟩
            rw [← epos, ← eq11, ← eqc]
            omega
      · exact absurd hc4 (show ¬ ¬ ((1 : Int) ≠ 0) by omega)
  · have hc1 : ¬ ((jk_h b (σ 103 9) (σ 103 8)) = 50) := hc1
    refine jw_W_n 1 (i' := 7) (ls' := [some (.inr (.inr 103)), some (.inl s), some (.inl 1), none]) (st' := [.inr (.inr 103)]) rfl ?_
    refine jw_W_call (as := [.inr (.inr 103)]) (rest := []) rfl rfl rfl rfl (Nat.le_of_ble_eq_true rfl) (.inr rfl) (jk_hereR ht) (by omega) ?_ rfl
    rintro r1 σz ⟨rfl, hs⟩
    rw [hs]
    show jw_W (js_S n) _ md_216 8 [some (.inr (.inr 103)), some (.inl s), some (.inl 1), none] [.inl (jk_h b (σ 103 9) (σ 103 8))] σ _
    refine jw_W_n 1 (i' := 9) (ls' := [some (.inr (.inr 103)), some (.inl s), some (.inl 1), none]) (st' := [.inl 51, .inl (jk_h b (σ 103 9) (σ 103 8))]) rfl ?_
    refine jw_W_ic rfl (by unfold jw_rg; omega) (by unfold jw_rg; omega) (fun hc7 => ?_) (fun hc7 => ?_)
    · have hc7 : (jk_h b (σ 103 9) (σ 103 8)) ≠ 51 := hc7
      refine jw_W_n 1 (i' := 22) (ls' := [some (.inr (.inr 103)), some (.inl s), some (.inl 1), none]) (st' := [.inr (.inr 103)]) rfl ?_
      refine jw_W_call (as := [.inr (.inr 103)]) (rest := []) rfl rfl rfl rfl (Nat.le_of_ble_eq_true rfl) (.inr rfl) (jk_readsQ ht hq) (by omega) ?_ rfl
      rintro r1 σz (⟨rfl, hl, hs⟩ | ⟨rfl, hl, hlt, hs⟩ | ⟨rfl, hl, hlt, hs⟩)
      · rename jw_H => σf
        have hcf : jk_cf (jk_h b (σ 103 9) (σ 103 8)) (1) 0 := by unfold jk_cf; omega
        have epos : σ 103 8 = σ 103 8 + 0 := by omega
        have hff : jk_ft σ σf := by rw [hs]; exact jk_ft_up (jk_ft_rf σ) (by omega)
        have e10f : σf 103 10 = -1000 * 1 - (σ 103 8 + 0) := by rw [hs, jw_up_eq]; omega
        show jw_W (js_S n) _ md_216 23 [some (.inr (.inr 103)), some (.inl s), some (.inl 1), none] [.inl 0] σf _
        refine jw_W_if rfl (by unfold jw_rg; omega) (fun hc8 => ?_) (fun hc8 => ?_)
        · exact absurd hc8 (show ¬ ((0 : Int) ≠ 0) by omega)
        · clear hc8
          refine jw_W_n 1 (i' := 25) (ls' := [some (.inr (.inr 103)), some (.inl s), some (.inl 1), none]) (st' := [.inl 0]) rfl ?_
          refine jw_W_ir rfl ?_
          first | exact ⟨_, _, hcf, .inr (.inl ⟨rfl, by rw [← epos]; exact hl, by rw [← epos]; exact hlt, hff, e10f⟩)⟩ | exact ⟨_, _, hcf, .inl ⟨rfl, by rw [← epos]; exact hl, hff, e10f⟩⟩
      · rename jw_H => σf
        have hcf : jk_cf (jk_h b (σ 103 9) (σ 103 8)) (1) 0 := by unfold jk_cf; omega
        have epos : σ 103 8 = σ 103 8 + 0 := by omega
        have hff : jk_ft σ σf := by rw [hs]; exact jk_ft_up (jk_ft_rf σ) (by omega)
        have e10f : σf 103 10 = -1000 * 7 - (σ 103 8 + 0) := by rw [hs, jw_up_eq]; omega
        show jw_W (js_S n) _ md_216 23 [some (.inr (.inr 103)), some (.inl s), some (.inl 1), none] [.inl 0] σf _
        refine jw_W_if rfl (by unfold jw_rg; omega) (fun hc9 => ?_) (fun hc9 => ?_)
        · exact absurd hc9 (show ¬ ((0 : Int) ≠ 0) by omega)
        · clear hc9
          refine jw_W_n 1 (i' := 25) (ls' := [some (.inr (.inr 103)), some (.inl s), some (.inl 1), none]) (st' := [.inl 0]) rfl ?_
          refine jw_W_ir rfl ?_
          first | exact ⟨_, _, hcf, .inr (.inl ⟨rfl, by rw [← epos]; exact hl, by rw [← epos]; exact hlt, hff, e10f⟩)⟩ | exact ⟨_, _, hcf, .inl ⟨rfl, by rw [← epos]; exact hl, hff, e10f⟩⟩
      · rename jw_H => σq
        have hcf : jk_cf (jk_h b (σ 103 9) (σ 103 8)) (1) 0 := by unfold jk_cf; omega
        have epos : σ 103 8 = σ 103 8 + 0 := by omega
        have hgq : jk_ft σ σq := by rw [hs]; exact jk_ft_up (jk_ft_rf σ) (by omega)
        have eq11 : σq 103 11 = jk_h b (σ 103 9) (σ 103 8) - 120 := by rw [hs, jw_up_eq]
        have eq8 : σq 103 8 = σ 103 8 := by rw [hs, jw_up_ne _ (by omega)]
        have eqc : σq 124 = σ 124 := by rw [hs, jw_up_out _ _ _ (by omega)]
        have hlz := hl
        unfold jk_let at hlz
        have hrw := hrow (σq 103 11) (by omega) (by omega)
        rw [← eqc] at hrw
        have hsc : -3 ≤ s * 1 ∧ s * 1 ≤ 3 := by rcases hs1 with e | e <;> rw [e] <;> omega
        show jw_W (js_S n) _ md_216 23 [some (.inr (.inr 103)), some (.inl s), some (.inl 1), none] [.inl 1] σq _
        refine jw_W_if rfl (by unfold jw_rg; omega) (fun hc10 => ?_) (fun hc10 => ?_)
        · clear hc10
          refine jw_W_n 1 (i' := 27) (ls' := [some (.inr (.inr 103)), some (.inl s), some (.inl 1), none]) (st' := [.inr (.inr 103)]) rfl ?_
          refine jw_W_gf rfl rfl rfl ?_
          show jw_W (js_S n) _ md_216 28 [some (.inr (.inr 103)), some (.inl s), some (.inl 1), none] [.inr (.inr 124)] σq _
          refine jw_W_n 1 (i' := 29) (ls' := [some (.inr (.inr 103)), some (.inl s), some (.inl 1), none]) (st' := [.inr (.inr 103), .inr (.inr 124)]) rfl ?_
          refine jw_W_gf rfl rfl rfl ?_
          show jw_W (js_S n) _ md_216 30 [some (.inr (.inr 103)), some (.inl s), some (.inl 1), none] [.inl (σq 103 11), .inr (.inr 124)] σq _
          refine jw_W_ia rfl rfl (by omega) (by omega) (by omega) ?_
          show jw_W (js_S n) _ md_216 31 [some (.inr (.inr 103)), some (.inl s), some (.inl 1), none] [.inl (σq 124 (σq 103 11))] σq _
          refine jw_W_n 8 (i' := 39) (ls' := [some (.inr (.inr 103)), some (.inl s), some (.inl 1), some (.inl ((σq 124 (σq 103 11)) + (s * 1)))]) (st' := [.inl 3, .inl ((-3)), .inl ((σq 124 (σq 103 11)) + (s * 1))]) rfl ?_
          refine jw_W_call (as := [.inl ((σq 124 (σq 103 11)) + (s * 1)), .inl ((-3)), .inl 3]) (rest := []) rfl rfl rfl rfl (Nat.le_of_ble_eq_true rfl) (.inl rfl) (jm_in (by unfold jw_rg; omega) (by unfold jw_rg; omega) (by unfold jw_rg; omega)) (by omega) ?_ rfl
          rintro r1 σz (⟨rfl, hs, q2⟩ | ⟨rfl, hs, q2⟩)
          · rw [hs]
            show jw_W (js_S n) _ md_216 40 [some (.inr (.inr 103)), some (.inl s), some (.inl 1), some (.inl ((σq 124 (σq 103 11)) + (s * 1)))] [.inl 1] σq _
            refine jw_W_if rfl (by unfold jw_rg; omega) (fun hc11 => ?_) (fun hc11 => ?_)
            · clear hc11
              refine jw_W_n 1 (i' := 48) (ls' := [some (.inr (.inr 103)), some (.inl s), some (.inl 1), some (.inl ((σq 124 (σq 103 11)) + (s * 1)))]) (st' := [.inr (.inr 103)]) rfl ?_
              refine jw_W_gf rfl rfl rfl ?_
              show jw_W (js_S n) _ md_216 49 [some (.inr (.inr 103)), some (.inl s), some (.inl 1), some (.inl ((σq 124 (σq 103 11)) + (s * 1)))] [.inr (.inr 124)] σq _
              refine jw_W_n 1 (i' := 50) (ls' := [some (.inr (.inr 103)), some (.inl s), some (.inl 1), some (.inl ((σq 124 (σq 103 11)) + (s * 1)))]) (st' := [.inr (.inr 103), .inr (.inr 124)]) rfl ?_
              refine jw_W_gf rfl rfl rfl ?_
              show jw_W (js_S n) _ md_216 51 [some (.inr (.inr 103)), some (.inl s), some (.inl 1), some (.inl ((σq 124 (σq 103 11)) + (s * 1)))] [.inl (σq 103 11), .inr (.inr 124)] σq _
              refine jw_W_n 1 (i' := 52) (ls' := [some (.inr (.inr 103)), some (.inl s), some (.inl 1), some (.inl ((σq 124 (σq 103 11)) + (s * 1)))]) (st' := [.inl ((σq 124 (σq 103 11)) + (s * 1)), .inl (σq 103 11), .inr (.inr 124)]) rfl ?_
              refine jw_W_is rfl (by omega) rfl (by omega) (by omega) (by omega) ?_
              obtain ⟨σr, hsr⟩ : ∃ τ : jw_H, τ = jw_up σq 124 (σq 103 11) ((σq 124 (σq 103 11)) + (s * 1)) := ⟨_, rfl⟩
              show jw_W (js_S n) _ _ _ _ _ (jw_up σq 124 (σq 103 11) ((σq 124 (σq 103 11)) + (s * 1))) _
              rw [← hsr]
              have hgr : jk_ft σ σr := by rw [hsr]; exact jk_ft_up hgq (by omega)
              have er8 : σr 103 8 = σq 103 8 := by rw [hsr, jw_up_out _ _ _ (by omega)]
              have erv : σr 124 (σq 103 11) = (σq 124 (σq 103 11)) + (s * 1) := by rw [hsr, jw_up_eq]
              have ern : ∀ j, j ≠ σq 103 11 → σr 124 j = σ 124 j := fun j hj => by rw [hsr, jw_up_ne _ (by omega), eqc]
              refine jw_W_n 2 (i' := 55) (ls' := [some (.inr (.inr 103)), some (.inl s), some (.inl 1), some (.inl ((σq 124 (σq 103 11)) + (s * 1)))]) (st' := [.inr (.inr 103), .inr (.inr 103)]) rfl ?_
              refine jw_W_gf rfl rfl rfl ?_
              show jw_W (js_S n) _ md_216 56 [some (.inr (.inr 103)), some (.inl s), some (.inl 1), some (.inl ((σq 124 (σq 103 11)) + (s * 1)))] [.inl (σr 103 8), .inr (.inr 103)] σr _
              refine jw_W_n 2 (i' := 58) (ls' := [some (.inr (.inr 103)), some (.inl s), some (.inl 1), some (.inl ((σq 124 (σq 103 11)) + (s * 1)))]) (st' := [.inl (σr 103 8 + 1), .inr (.inr 103)]) rfl ?_
              refine jw_W_pf (a := σr 103 8 + 1) rfl (by omega) rfl rfl rfl rfl rfl ?_
              refine jw_W_n 1 (i' := 60) (ls' := [some (.inr (.inr 103)), some (.inl s), some (.inl 1), some (.inl ((σq 124 (σq 103 11)) + (s * 1)))]) (st' := [.inl 1]) rfl ?_
              refine jw_W_ir rfl ?_
              refine ⟨_, _, hcf, .inr (.inr (.inr ⟨rfl, by rw [← epos]; exact hl, by rw [← epos]; exact hlt, ?_, jk_ft_up hgr (by omega), ?_, ?_, ?_⟩))⟩
              · rw [← epos, ← eq11, ← eqc]
                omega
              · rw [← epos, ← eq11]
                show jw_up σr 103 8 (σr 103 8 + 1) 124 (σq 103 11) = _
                rw [jw_up_out _ _ _ (by omega), erv, eqc]
              · intro j hj
                rw [← epos, ← eq11] at hj
                show jw_up σr 103 8 (σr 103 8 + 1) 124 j = _
                rw [jw_up_out _ _ _ (by omega)]
                exact ern j hj
              · show jw_up σr 103 8 (σr 103 8 + 1) 103 8 = _
                rw [jw_up_eq]
                omega
            · exact absurd hc11 (show ¬ ¬ ((1 : Int) ≠ 0) by omega)
          · rw [hs]
            show jw_W (js_S n) _ md_216 40 [some (.inr (.inr 103)), some (.inl s), some (.inl 1), some (.inl ((σq 124 (σq 103 11)) + (s * 1)))] [.inl 0] σq _
            refine jw_W_if rfl (by unfold jw_rg; omega) (fun hc12 => ?_) (fun hc12 => ?_)
            · exact absurd hc12 (show ¬ ((0 : Int) ≠ 0) by omega)
            · clear hc12
              refine jw_W_n 3 (i' := 44) (ls' := [some (.inr (.inr 103)), some (.inl s), some (.inl 1), some (.inl ((σq 124 (σq 103 11)) + (s * 1)))]) (st' := [.inr (.inr 103), .inl 3, .inr (.inr 103)]) rfl ?_
              refine jw_W_gf rfl rfl rfl ?_
              show jw_W (js_S n) _ md_216 45 [some (.inr (.inr 103)), some (.inl s), some (.inl 1), some (.inl ((σq 124 (σq 103 11)) + (s * 1)))] [.inl (σq 103 8), .inl 3, .inr (.inr 103)] σq _
              refine jw_W_call (as := [.inr (.inr 103), .inl 3, .inl (σq 103 8)]) (rest := []) rfl rfl rfl rfl (Nat.le_of_ble_eq_true rfl) (.inr rfl) (jk_wrongAt (by omega) (by omega)) (by omega) ?_ rfl
              rintro r1 σz ⟨rfl, hs⟩
              rename jw_H => σg
              have hfg : jk_ft σ σg := by rw [hs]; exact jk_ft_up hgq (by omega)
              have e10g : σg 103 10 = -1000 * 3 - σq 103 8 := by rw [hs, jw_up_eq]
              show jw_W (js_S n) _ md_216 46 [some (.inr (.inr 103)), some (.inl s), some (.inl 1), some (.inl ((σq 124 (σq 103 11)) + (s * 1)))] [.inl 0] σg _
              refine jw_W_ir rfl ?_
              refine ⟨_, _, hcf, .inr (.inr (.inl ⟨rfl, by rw [← epos]; exact hl, by rw [← epos]; exact hlt, ?_, hfg, by omega⟩))⟩
              rw [← epos, ← eq11, ← eqc]
              omega
        · exact absurd hc10 (show ¬ ¬ ((1 : Int) ≠ 0) by omega)
    · have hc7 : (jk_h b (σ 103 9) (σ 103 8)) = 51 := Classical.not_not.mp hc7
      refine jw_W_n 1 (i' := 11) (ls' := [some (.inr (.inr 103)), some (.inl s), some (.inl 1), none]) (st' := [.inr (.inr 103)]) rfl ?_
      refine jw_W_call (as := [.inr (.inr 103)]) (rest := []) rfl rfl rfl rfl (Nat.le_of_ble_eq_true rfl) (.inr rfl) (jk_hereR ht) (by omega) ?_ rfl
      rintro r1 σz ⟨rfl, hs⟩
      rw [hs]
      show jw_W (js_S n) _ md_216 12 [some (.inr (.inr 103)), some (.inl s), some (.inl 1), none] [.inl (jk_h b (σ 103 9) (σ 103 8))] σ _
      refine jw_W_n 5 (i' := 17) (ls' := [some (.inr (.inr 103)), some (.inl s), some (.inl ((jk_h b (σ 103 9) (σ 103 8)) - 48)), none]) (st' := [.inr (.inr 103), .inr (.inr 103)]) rfl ?_
      refine jw_W_gf rfl rfl rfl ?_
      show jw_W (js_S n) _ md_216 18 [some (.inr (.inr 103)), some (.inl s), some (.inl ((jk_h b (σ 103 9) (σ 103 8)) - 48)), none] [.inl (σ 103 8), .inr (.inr 103)] σ _
      refine jw_W_n 2 (i' := 20) (ls' := [some (.inr (.inr 103)), some (.inl s), some (.inl ((jk_h b (σ 103 9) (σ 103 8)) - 48)), none]) (st' := [.inl (σ 103 8 + 1), .inr (.inr 103)]) rfl ?_
      refine jw_W_pf (a := σ 103 8 + 1) rfl (by omega) rfl rfl rfl rfl rfl ?_
      obtain ⟨σa, hsa⟩ : ∃ s, s = jw_up σ 103 8 (σ 103 8 + 1) := ⟨_, rfl⟩
      show jw_W (js_S n) _ _ _ _ _ (jw_up σ 103 8 (σ 103 8 + 1)) _
      rw [← hsa]
      have hfa : jk_f8 σ σa := by rw [hsa]; exact jk_f8_up (jk_f8_rf σ) (by omega)
      have e8a : σa 103 8 = σ 103 8 + 1 := by rw [hsa, jw_up_eq]
      have e9a : σa 103 9 = σ 103 9 := hfa.2 9 (by omega) (by omega) (by omega)
      have hta : jk_tr σa b := jk_tr_f8 ht hfa (by omega)
      have e34 : σa 103 34 = σ 103 34 := hfa.2 34 (by omega) (by omega) (by omega)
      have hga : jk_ft σ σa := by rw [hsa]; exact jk_ft_up (jk_ft_rf σ) (by omega)
      have eca : σa 124 = σ 124 := hfa.1 124 (by omega)
      refine jw_W_n 1 (i' := 22) (ls' := [some (.inr (.inr 103)), some (.inl s), some (.inl ((jk_h b (σ 103 9) (σ 103 8)) - 48)), none]) (st' := [.inr (.inr 103)]) rfl ?_
      refine jw_W_call (as := [.inr (.inr 103)]) (rest := []) rfl rfl rfl rfl (Nat.le_of_ble_eq_true rfl) (.inr rfl) (jk_readsQ hta (by omega)) (by omega) ?_ rfl
      rintro r1 σz (⟨rfl, hl, hs⟩ | ⟨rfl, hl, hlt, hs⟩ | ⟨rfl, hl, hlt, hs⟩)
      · rename jw_H => σf
        rw [e9a, e8a] at hl
        have hcf : jk_cf (jk_h b (σ 103 9) (σ 103 8)) ((jk_h b (σ 103 9) (σ 103 8) - 48)) 1 := by unfold jk_cf; omega
        have epos : σ 103 8 + 1 = σ 103 8 + 1 := by omega
        have hff : jk_ft σ σf := by rw [hs]; exact jk_ft_up hga (by omega)
        have e10f : σf 103 10 = -1000 * 1 - (σ 103 8 + 1) := by rw [hs, jw_up_eq]; omega
        show jw_W (js_S n) _ md_216 23 [some (.inr (.inr 103)), some (.inl s), some (.inl ((jk_h b (σ 103 9) (σ 103 8)) - 48)), none] [.inl 0] σf _
        refine jw_W_if rfl (by unfold jw_rg; omega) (fun hc13 => ?_) (fun hc13 => ?_)
        · exact absurd hc13 (show ¬ ((0 : Int) ≠ 0) by omega)
        · clear hc13
          refine jw_W_n 1 (i' := 25) (ls' := [some (.inr (.inr 103)), some (.inl s), some (.inl ((jk_h b (σ 103 9) (σ 103 8)) - 48)), none]) (st' := [.inl 0]) rfl ?_
          refine jw_W_ir rfl ?_
          first | exact ⟨_, _, hcf, .inr (.inl ⟨rfl, by rw [← epos]; exact hl, by rw [← epos]; exact hlt, hff, e10f⟩)⟩ | exact ⟨_, _, hcf, .inl ⟨rfl, by rw [← epos]; exact hl, hff, e10f⟩⟩
      · rename jw_H => σf
        rw [e9a, e8a] at hl hlt
        rw [e34] at hlt
        have hcf : jk_cf (jk_h b (σ 103 9) (σ 103 8)) ((jk_h b (σ 103 9) (σ 103 8) - 48)) 1 := by unfold jk_cf; omega
        have epos : σ 103 8 + 1 = σ 103 8 + 1 := by omega
        have hff : jk_ft σ σf := by rw [hs]; exact jk_ft_up hga (by omega)
        have e10f : σf 103 10 = -1000 * 7 - (σ 103 8 + 1) := by rw [hs, jw_up_eq]; omega
        show jw_W (js_S n) _ md_216 23 [some (.inr (.inr 103)), some (.inl s), some (.inl ((jk_h b (σ 103 9) (σ 103 8)) - 48)), none] [.inl 0] σf _
        refine jw_W_if rfl (by unfold jw_rg; omega) (fun hc14 => ?_) (fun hc14 => ?_)
        · exact absurd hc14 (show ¬ ((0 : Int) ≠ 0) by omega)
        · clear hc14
          refine jw_W_n 1 (i' := 25) (ls' := [some (.inr (.inr 103)), some (.inl s), some (.inl ((jk_h b (σ 103 9) (σ 103 8)) - 48)), none]) (st' := [.inl 0]) rfl ?_
          refine jw_W_ir rfl ?_
          first | exact ⟨_, _, hcf, .inr (.inl ⟨rfl, by rw [← epos]; exact hl, by rw [← epos]; exact hlt, hff, e10f⟩)⟩ | exact ⟨_, _, hcf, .inl ⟨rfl, by rw [← epos]; exact hl, hff, e10f⟩⟩
      · rename jw_H => σq
        rw [e9a, e8a] at hl hlt
        rw [e34] at hlt
        have hcf : jk_cf (jk_h b (σ 103 9) (σ 103 8)) ((jk_h b (σ 103 9) (σ 103 8) - 48)) 1 := by unfold jk_cf; omega
        have epos : σ 103 8 + 1 = σ 103 8 + 1 := by omega
        have hgq : jk_ft σ σq := by rw [hs]; exact jk_ft_up hga (by omega)
        have eq11 : σq 103 11 = jk_h b (σ 103 9) (σ 103 8 + 1) - 120 := by rw [hs, jw_up_eq]; rw [e9a, e8a]
        have eq8 : σq 103 8 = σ 103 8 + 1 := by rw [hs, jw_up_ne _ (by omega)]; exact e8a
        have eqc : σq 124 = σ 124 := by rw [hs, jw_up_out _ _ _ (by omega)]; exact eca
        have hlz := hl
        unfold jk_let at hlz
        have hrw := hrow (σq 103 11) (by omega) (by omega)
        rw [← eqc] at hrw
        have hsc : -3 ≤ s * (jk_h b (σ 103 9) (σ 103 8) - 48) ∧ s * (jk_h b (σ 103 9) (σ 103 8) - 48) ≤ 3 := by rcases hs1 with e | e <;> rw [e] <;> omega
        show jw_W (js_S n) _ md_216 23 [some (.inr (.inr 103)), some (.inl s), some (.inl ((jk_h b (σ 103 9) (σ 103 8)) - 48)), none] [.inl 1] σq _
        refine jw_W_if rfl (by unfold jw_rg; omega) (fun hc15 => ?_) (fun hc15 => ?_)
        · clear hc15
          refine jw_W_n 1 (i' := 27) (ls' := [some (.inr (.inr 103)), some (.inl s), some (.inl ((jk_h b (σ 103 9) (σ 103 8)) - 48)), none]) (st' := [.inr (.inr 103)]) rfl ?_
          refine jw_W_gf rfl rfl rfl ?_
          show jw_W (js_S n) _ md_216 28 [some (.inr (.inr 103)), some (.inl s), some (.inl ((jk_h b (σ 103 9) (σ 103 8)) - 48)), none] [.inr (.inr 124)] σq _
          refine jw_W_n 1 (i' := 29) (ls' := [some (.inr (.inr 103)), some (.inl s), some (.inl ((jk_h b (σ 103 9) (σ 103 8)) - 48)), none]) (st' := [.inr (.inr 103), .inr (.inr 124)]) rfl ?_
          refine jw_W_gf rfl rfl rfl ?_
          show jw_W (js_S n) _ md_216 30 [some (.inr (.inr 103)), some (.inl s), some (.inl ((jk_h b (σ 103 9) (σ 103 8)) - 48)), none] [.inl (σq 103 11), .inr (.inr 124)] σq _
          refine jw_W_ia rfl rfl (by omega) (by omega) (by omega) ?_
          show jw_W (js_S n) _ md_216 31 [some (.inr (.inr 103)), some (.inl s), some (.inl ((jk_h b (σ 103 9) (σ 103 8)) - 48)), none] [.inl (σq 124 (σq 103 11))] σq _
          refine jw_W_n 8 (i' := 39) (ls' := [some (.inr (.inr 103)), some (.inl s), some (.inl ((jk_h b (σ 103 9) (σ 103 8)) - 48)), some (.inl ((σq 124 (σq 103 11)) + (s * ((jk_h b (σ 103 9) (σ 103 8)) - 48))))]) (st' := [.inl 3, .inl ((-3)), .inl ((σq 124 (σq 103 11)) + (s * ((jk_h b (σ 103 9) (σ 103 8)) - 48)))]) rfl ?_
          refine jw_W_call (as := [.inl ((σq 124 (σq 103 11)) + (s * ((jk_h b (σ 103 9) (σ 103 8)) - 48))), .inl ((-3)), .inl 3]) (rest := []) rfl rfl rfl rfl (Nat.le_of_ble_eq_true rfl) (.inl rfl) (jm_in (by unfold jw_rg; omega) (by unfold jw_rg; omega) (by unfold jw_rg; omega)) (by omega) ?_ rfl
          rintro r1 σz (⟨rfl, hs, q3⟩ | ⟨rfl, hs, q3⟩)
          · rw [hs]
            show jw_W (js_S n) _ md_216 40 [some (.inr (.inr 103)), some (.inl s), some (.inl ((jk_h b (σ 103 9) (σ 103 8)) - 48)), some (.inl ((σq 124 (σq 103 11)) + (s * ((jk_h b (σ 103 9) (σ 103 8)) - 48))))] [.inl 1] σq _
            refine jw_W_if rfl (by unfold jw_rg; omega) (fun hc16 => ?_) (fun hc16 => ?_)
            · clear hc16
              refine jw_W_n 1 (i' := 48) (ls' := [some (.inr (.inr 103)), some (.inl s), some (.inl ((jk_h b (σ 103 9) (σ 103 8)) - 48)), some (.inl ((σq 124 (σq 103 11)) + (s * ((jk_h b (σ 103 9) (σ 103 8)) - 48))))]) (st' := [.inr (.inr 103)]) rfl ?_
              refine jw_W_gf rfl rfl rfl ?_
              show jw_W (js_S n) _ md_216 49 [some (.inr (.inr 103)), some (.inl s), some (.inl ((jk_h b (σ 103 9) (σ 103 8)) - 48)), some (.inl ((σq 124 (σq 103 11)) + (s * ((jk_h b (σ 103 9) (σ 103 8)) - 48))))] [.inr (.inr 124)] σq _
              refine jw_W_n 1 (i' := 50) (ls' := [some (.inr (.inr 103)), some (.inl s), some (.inl ((jk_h b (σ 103 9) (σ 103 8)) - 48)), some (.inl ((σq 124 (σq 103 11)) + (s * ((jk_h b (σ 103 9) (σ 103 8)) - 48))))]) (st' := [.inr (.inr 103), .inr (.inr 124)]) rfl ?_
              refine jw_W_gf rfl rfl rfl ?_
              show jw_W (js_S n) _ md_216 51 [some (.inr (.inr 103)), some (.inl s), some (.inl ((jk_h b (σ 103 9) (σ 103 8)) - 48)), some (.inl ((σq 124 (σq 103 11)) + (s * ((jk_h b (σ 103 9) (σ 103 8)) - 48))))] [.inl (σq 103 11), .inr (.inr 124)] σq _
              refine jw_W_n 1 (i' := 52) (ls' := [some (.inr (.inr 103)), some (.inl s), some (.inl ((jk_h b (σ 103 9) (σ 103 8)) - 48)), some (.inl ((σq 124 (σq 103 11)) + (s * ((jk_h b (σ 103 9) (σ 103 8)) - 48))))]) (st' := [.inl ((σq 124 (σq 103 11)) + (s * ((jk_h b (σ 103 9) (σ 103 8)) - 48))), .inl (σq 103 11), .inr (.inr 124)]) rfl ?_
              refine jw_W_is rfl (by omega) rfl (by omega) (by omega) (by omega) ?_
              obtain ⟨σr, hsr⟩ : ∃ τ : jw_H, τ = jw_up σq 124 (σq 103 11) ((σq 124 (σq 103 11)) + (s * ((jk_h b (σ 103 9) (σ 103 8)) - 48))) := ⟨_, rfl⟩
              show jw_W (js_S n) _ _ _ _ _ (jw_up σq 124 (σq 103 11) ((σq 124 (σq 103 11)) + (s * ((jk_h b (σ 103 9) (σ 103 8)) - 48)))) _
              rw [← hsr]
              have hgr : jk_ft σ σr := by rw [hsr]; exact jk_ft_up hgq (by omega)
              have er8 : σr 103 8 = σq 103 8 := by rw [hsr, jw_up_out _ _ _ (by omega)]
              have erv : σr 124 (σq 103 11) = (σq 124 (σq 103 11)) + (s * ((jk_h b (σ 103 9) (σ 103 8)) - 48)) := by rw [hsr, jw_up_eq]
              have ern : ∀ j, j ≠ σq 103 11 → σr 124 j = σ 124 j := fun j hj => by rw [hsr, jw_up_ne _ (by omega), eqc]
              refine jw_W_n 2 (i' := 55) (ls' := [some (.inr (.inr 103)), some (.inl s), some (.inl ((jk_h b (σ 103 9) (σ 103 8)) - 48)), some (.inl ((σq 124 (σq 103 11)) + (s * ((jk_h b (σ 103 9) (σ 103 8)) - 48))))]) (st' := [.inr (.inr 103), .inr (.inr 103)]) rfl ?_
              refine jw_W_gf rfl rfl rfl ?_
              show jw_W (js_S n) _ md_216 56 [some (.inr (.inr 103)), some (.inl s), some (.inl ((jk_h b (σ 103 9) (σ 103 8)) - 48)), some (.inl ((σq 124 (σq 103 11)) + (s * ((jk_h b (σ 103 9) (σ 103 8)) - 48))))] [.inl (σr 103 8), .inr (.inr 103)] σr _
              refine jw_W_n 2 (i' := 58) (ls' := [some (.inr (.inr 103)), some (.inl s), some (.inl ((jk_h b (σ 103 9) (σ 103 8)) - 48)), some (.inl ((σq 124 (σq 103 11)) + (s * ((jk_h b (σ 103 9) (σ 103 8)) - 48))))]) (st' := [.inl (σr 103 8 + 1), .inr (.inr 103)]) rfl ?_
              refine jw_W_pf (a := σr 103 8 + 1) rfl (by omega) rfl rfl rfl rfl rfl ?_
              refine jw_W_n 1 (i' := 60) (ls' := [some (.inr (.inr 103)), some (.inl s), some (.inl ((jk_h b (σ 103 9) (σ 103 8)) - 48)), some (.inl ((σq 124 (σq 103 11)) + (s * ((jk_h b (σ 103 9) (σ 103 8)) - 48))))]) (st' := [.inl 1]) rfl ?_
              refine jw_W_ir rfl ?_
              refine ⟨_, _, hcf, .inr (.inr (.inr ⟨rfl, by rw [← epos]; exact hl, by rw [← epos]; exact hlt, ?_, jk_ft_up hgr (by omega), ?_, ?_, ?_⟩))⟩
              · rw [← epos, ← eq11, ← eqc]
                omega
              · rw [← epos, ← eq11]
                show jw_up σr 103 8 (σr 103 8 + 1) 124 (σq 103 11) = _
                rw [jw_up_out _ _ _ (by omega), erv, eqc]
              · intro j hj
                rw [← epos, ← eq11] at hj
                show jw_up σr 103 8 (σr 103 8 + 1) 124 j = _
                rw [jw_up_out _ _ _ (by omega)]
                exact ern j hj
              · show jw_up σr 103 8 (σr 103 8 + 1) 103 8 = _
                rw [jw_up_eq]
                omega
            · exact absurd hc16 (show ¬ ¬ ((1 : Int) ≠ 0) by omega)
          · rw [hs]
            show jw_W (js_S n) _ md_216 40 [some (.inr (.inr 103)), some (.inl s), some (.inl ((jk_h b (σ 103 9) (σ 103 8)) - 48)), some (.inl ((σq 124 (σq 103 11)) + (s * ((jk_h b (σ 103 9) (σ 103 8)) - 48))))] [.inl 0] σq _
            refine jw_W_if rfl (by unfold jw_rg; omega) (fun hc17 => ?_) (fun hc17 => ?_)
            · exact absurd hc17 (show ¬ ((0 : Int) ≠ 0) by omega)
            · clear hc17
              refine jw_W_n 3 (i' := 44) (ls' := [some (.inr (.inr 103)), some (.inl s), some (.inl ((jk_h b (σ 103 9) (σ 103 8)) - 48)), some (.inl ((σq 124 (σq 103 11)) + (s * ((jk_h b (σ 103 9) (σ 103 8)) - 48))))]) (st' := [.inr (.inr 103), .inl 3, .inr (.inr 103)]) rfl ?_
              refine jw_W_gf rfl rfl rfl ?_
              show jw_W (js_S n) _ md_216 45 [some (.inr (.inr 103)), some (.inl s), some (.inl ((jk_h b (σ 103 9) (σ 103 8)) - 48)), some (.inl ((σq 124 (σq 103 11)) + (s * ((jk_h b (σ 103 9) (σ 103 8)) - 48))))] [.inl (σq 103 8), .inl 3, .inr (.inr 103)] σq _
              refine jw_W_call (as := [.inr (.inr 103), .inl 3, .inl (σq 103 8)]) (rest := []) rfl rfl rfl rfl (Nat.le_of_ble_eq_true rfl) (.inr rfl) (jk_wrongAt (by omega) (by omega)) (by omega) ?_ rfl
              rintro r1 σz ⟨rfl, hs⟩
              rename jw_H => σg
              have hfg : jk_ft σ σg := by rw [hs]; exact jk_ft_up hgq (by omega)
              have e10g : σg 103 10 = -1000 * 3 - σq 103 8 := by rw [hs, jw_up_eq]
              show jw_W (js_S n) _ md_216 46 [some (.inr (.inr 103)), some (.inl s), some (.inl ((jk_h b (σ 103 9) (σ 103 8)) - 48)), some (.inl ((σq 124 (σq 103 11)) + (s * ((jk_h b (σ 103 9) (σ 103 8)) - 48))))] [.inl 0] σg _
              refine jw_W_ir rfl ?_
              refine ⟨_, _, hcf, .inr (.inr (.inl ⟨rfl, by rw [← epos]; exact hl, by rw [← epos]; exact hlt, ?_, hfg, by omega⟩))⟩
              rw [← epos, ← eq11, ← eqc]
              omega
        · exact absurd hc15 (show ¬ ¬ ((1 : Int) ≠ 0) by omega)

/-! ===== texts: a number (reference) ===== -/
def jk_f8 (σ σ' : jw_H) : Prop := (∀ o, o ≠ 103 → σ' o = σ o) ∧ ∀ j, j ≠ 8 → j ≠ 10 → j ≠ 11 → σ' 103 j = σ 103 j
theorem jk_f8_rf (σ : jw_H) : jk_f8 σ σ := ⟨fun _ _ => rfl, fun _ _ _ _ => rfl⟩
theorem jk_f8_up {σ σ' : jw_H} {j v : Int} (h : jk_f8 σ σ') (hj : j = 8 ∨ j = 10 ∨ j = 11) : jk_f8 σ (jw_up σ' 103 j v) := ⟨fun o ho => by rw [jw_up_out _ _ _ ho]; exact h.1 o ho, fun j' h1 h2 h3 => by rw [jw_up_ne _ (by omega)]; exact h.2 j' h1 h2 h3⟩
theorem jk_tr_f8 {σ σ' : jw_H} {b : Int → Int} (h : jk_tr σ b) (hf : jk_f8 σ σ') (h8 : 0 ≤ σ' 103 8 ∧ σ' 103 8 ≤ 100000) : jk_tr σ' b := by
  obtain ⟨h1, h2, h3⟩ := h
  unfold jk_tr
  rw [hf.2 9 (by omega) (by omega) (by omega), hf.1 107 (by omega)]
  exact ⟨h8, h2, h3⟩
theorem jk_readsTwo {n : Nat} {σ : jw_H} {b : Int → Int} (ht : jk_tr σ b) (hp9 : σ 103 8 ≤ 90000)  : jw_T (js_S n) 3 218 [.inr (.inr 103)] σ (fun r σ' => (r = some (.inl 0) ∧ ¬ jk_dg (jk_h b (σ 103 9) (σ 103 8)) ∧ jk_f8 σ σ' ∧ σ' 103 10 = -1000 * 1 - σ 103 8) ∨ (r = some (.inl 1) ∧ jk_dg (jk_h b (σ 103 9) (σ 103 8)) ∧ ¬ jk_dg (jk_h b (σ 103 9) (σ 103 8 + 1)) ∧ jk_f8 σ σ' ∧ σ' 103 11 = jk_h b (σ 103 9) (σ 103 8) - 48 ∧ σ' 103 8 = σ 103 8 + 1) ∨ (r = some (.inl 1) ∧ jk_dg (jk_h b (σ 103 9) (σ 103 8)) ∧ jk_dg (jk_h b (σ 103 9) (σ 103 8 + 1)) ∧ ¬ jk_dg (jk_h b (σ 103 9) (σ 103 8 + 1 + 1)) ∧ jk_f8 σ σ' ∧ σ' 103 11 = 10 * (jk_h b (σ 103 9) (σ 103 8) - 48) + (jk_h b (σ 103 9) (σ 103 8 + 1) - 48) ∧ σ' 103 8 = σ 103 8 + 2) ∨ (r = some (.inl 0) ∧ jk_dg (jk_h b (σ 103 9) (σ 103 8)) ∧ jk_dg (jk_h b (σ 103 9) (σ 103 8 + 1)) ∧ jk_dg (jk_h b (σ 103 9) (σ 103 8 + 1 + 1)) ∧ jk_f8 σ σ' ∧ σ' 103 10 = -1000 * 2 - (σ 103 8 + 2))) := by
  refine jw_T_of (D := 2) (M := mm_218) rfl (Nat.le_of_ble_eq_true rfl) (ls0 := [some (.inr (.inr 103)), none]) rfl ?_ (by rintro _ _ (⟨rfl, -⟩ | ⟨rfl, -⟩ | ⟨rfl, -⟩ | ⟨rfl, -⟩) <;> rfl)
  have hbr : ∀ j, 0 ≤ j → j < σ 103 9 → 0 ≤ b j ∧ b j ≤ 255 := fun j j0 j1 => (ht.2.2 j j0 j1).2.2
  have hq0 := ht.1
  refine jw_W_n 1 (i' := 1) (ls' := [some (.inr (.inr 103)), none]) (st' := [.inr (.inr 103)]) rfl ?_
  refine jw_W_gf rfl rfl rfl ?_
  show jw_W (js_S n) _ md_218 2 [some (.inr (.inr 103)), none] [.inl (σ 103 8)] σ _
  refine jw_W_n 2 (i' := 4) (ls' := [some (.inr (.inr 103)), some (.inl (σ 103 8))]) (st' := [.inr (.inr 103)]) rfl ?_
  refine jw_W_call (as := [.inr (.inr 103)]) (rest := []) rfl rfl rfl rfl (Nat.le_of_ble_eq_true rfl) (.inr rfl) (jk_isDigitR ht) (by omega) ?_ rfl
  rintro r1 σz (⟨rfl, hs, hq1⟩ | ⟨rfl, hs, hq1⟩)
  · rw [hs]
    show jw_W (js_S n) _ md_218 5 [some (.inr (.inr 103)), some (.inl (σ 103 8))] [.inl 1] σ _
    refine jw_W_if rfl (by unfold jw_rg; omega) (fun hc1 => ?_) (fun hc1 => ?_)
    · clear hc1
      refine jw_W_n 2 (i' := 14) (ls' := [some (.inr (.inr 103)), some (.inl (σ 103 8))]) (st' := [.inl 0, .inr (.inr 103)]) rfl ?_
      refine jw_W_pf (a := 0) rfl (by omega) rfl rfl rfl rfl rfl ?_
      obtain ⟨σa, hsσa⟩ : ∃ s, s = jw_up σ 103 11 0 := ⟨_, rfl⟩
      show jw_W (js_S n) _ _ _ _ _ (jw_up σ 103 11 0) _
      rw [← hsσa]
      have hfσa : jk_f8 σ σa := by rw [hsσa]; exact jk_f8_up (jk_f8_rf σ) (by omega)
      have e8σa : σa 103 8 = σ 103 8 := by rw [hsσa, jw_up_ne _ (by omega)]
      have evσa : σa 103 11 = 0 := by rw [hsσa, jw_up_eq]
      have e9σa : σa 103 9 = σ 103 9 := hfσa.2 9 (by omega) (by omega) (by omega)
      have htσa : jk_tr σa b := jk_tr_f8 ht hfσa (by omega)
      refine jw_W_n 1 (i' := 16) (ls' := [some (.inr (.inr 103)), some (.inl (σ 103 8))]) (st' := [.inr (.inr 103)]) rfl ?_
      refine jw_W_call (as := [.inr (.inr 103)]) (rest := []) rfl rfl rfl rfl (Nat.le_of_ble_eq_true rfl) (.inr rfl) (jk_isDigitR htσa) (by omega) ?_ rfl
      rintro r1 σz (⟨rfl, hs, hq2⟩ | ⟨rfl, hs, hq2⟩)
      · rw [hs]
        rw [e9σa, e8σa] at hq2
        show jw_W (js_S n) _ md_218 17 [some (.inr (.inr 103)), some (.inl (σ 103 8))] [.inl 1] σa _
        refine jw_W_if rfl (by unfold jw_rg; omega) (fun hc2 => ?_) (fun hc2 => ?_)
        · exact absurd hc2 (show ¬ ((1 : Int) = 0) by omega)
        · clear hc2
          refine jw_W_n 1 (i' := 19) (ls' := [some (.inr (.inr 103)), some (.inl (σ 103 8))]) (st' := [.inr (.inr 103)]) rfl ?_
          refine jw_W_gf rfl rfl rfl ?_
          show jw_W (js_S n) _ md_218 20 [some (.inr (.inr 103)), some (.inl (σ 103 8))] [.inl (σa 103 8)] σa _
          refine jw_W_n 3 (i' := 23) (ls' := [some (.inr (.inr 103)), some (.inl (σ 103 8))]) (st' := [.inl (σ 103 8 + 2), .inl (σa 103 8)]) rfl ?_
          refine jw_W_ic rfl (by unfold jw_rg; omega) (by unfold jw_rg; omega) (fun hc3 => ?_) (fun hc3 => ?_)
          · have hc3 : (σa 103 8) ≠ (σ 103 8 + 2) := hc3
            refine jw_W_n 3 (i' := 33) (ls' := [some (.inr (.inr 103)), some (.inl (σ 103 8))]) (st' := [.inr (.inr 103), .inl 10, .inr (.inr 103)]) rfl ?_
            refine jw_W_gf rfl rfl rfl ?_
            show jw_W (js_S n) _ md_218 34 [some (.inr (.inr 103)), some (.inl (σ 103 8))] [.inl (σa 103 11), .inl 10, .inr (.inr 103)] σa _
            refine jw_W_n 2 (i' := 36) (ls' := [some (.inr (.inr 103)), some (.inl (σ 103 8))]) (st' := [.inr (.inr 103), .inl (10 * (σa 103 11)), .inr (.inr 103)]) rfl ?_
            refine jw_W_call (as := [.inr (.inr 103)]) (rest := [.inl (10 * (σa 103 11)), .inr (.inr 103)]) rfl rfl rfl rfl (Nat.le_of_ble_eq_true rfl) (.inr rfl) (jk_hereR htσa) (by omega) ?_ rfl
            rintro r1 σz ⟨rfl, hs⟩
            rw [hs]
            rw [e9σa, e8σa]
            have hrσa := jk_h_rg (b := b) (n := σ 103 9) (i := σ 103 8) (by omega) hbr
            show jw_W (js_S n) _ md_218 37 [some (.inr (.inr 103)), some (.inl (σ 103 8))] [.inl (jk_h b (σ 103 9) (σ 103 8)), .inl (10 * (σa 103 11)), .inr (.inr 103)] σa _
            refine jw_W_n 3 (i' := 40) (ls' := [some (.inr (.inr 103)), some (.inl (σ 103 8))]) (st' := [.inl (((10 * (σa 103 11)) + (jk_h b (σ 103 9) (σ 103 8))) - 48), .inr (.inr 103)]) rfl ?_
            refine jw_W_pf (a := ((10 * (σa 103 11)) + (jk_h b (σ 103 9) (σ 103 8))) - 48) rfl (by omega) rfl rfl rfl rfl rfl ?_
            obtain ⟨σaa, hsσaa⟩ : ∃ s, s = jw_up σa 103 11 (((10 * (σa 103 11)) + (jk_h b (σ 103 9) (σ 103 8))) - 48) := ⟨_, rfl⟩
            show jw_W (js_S n) _ _ _ _ _ (jw_up σa 103 11 (((10 * (σa 103 11)) + (jk_h b (σ 103 9) (σ 103 8))) - 48)) _
            rw [← hsσaa]
            have hfσaa : jk_f8 σ σaa := by rw [hsσaa]; exact jk_f8_up hfσa (by omega)
            have e8σaa : σaa 103 8 = σ 103 8 := by rw [hsσaa, jw_up_ne _ (by omega)]; exact e8σa
            have evσaa : σaa 103 11 = 10 * 0 + jk_h b (σ 103 9) (σ 103 8) - 48 := by rw [hsσaa, jw_up_eq]; omega
            have e9σaa : σaa 103 9 = σ 103 9 := hfσaa.2 9 (by omega) (by omega) (by omega)
            have htσaa : jk_tr σaa b := jk_tr_f8 ht hfσaa (by omega)
            refine jw_W_n 2 (i' := 43) (ls' := [some (.inr (.inr 103)), some (.inl (σ 103 8))]) (st' := [.inr (.inr 103), .inr (.inr 103)]) rfl ?_
            refine jw_W_gf rfl rfl rfl ?_
            show jw_W (js_S n) _ md_218 44 [some (.inr (.inr 103)), some (.inl (σ 103 8))] [.inl (σaa 103 8), .inr (.inr 103)] σaa _
            refine jw_W_n 2 (i' := 46) (ls' := [some (.inr (.inr 103)), some (.inl (σ 103 8))]) (st' := [.inl (σaa 103 8 + 1), .inr (.inr 103)]) rfl ?_
            refine jw_W_pf (a := σaa 103 8 + 1) rfl (by omega) rfl rfl rfl rfl rfl ?_
            obtain ⟨σb, hsσb⟩ : ∃ s, s = jw_up σaa 103 8 (σaa 103 8 + 1) := ⟨_, rfl⟩
            show jw_W (js_S n) _ _ _ _ _ (jw_up σaa 103 8 (σaa 103 8 + 1)) _
            rw [← hsσb]
            have hfσb : jk_f8 σ σb := by rw [hsσb]; exact jk_f8_up hfσaa (by omega)
            have e8σb : σb 103 8 = σ 103 8 + 1 := by rw [hsσb, jw_up_eq]; omega
            have evσb : σb 103 11 = 10 * 0 + jk_h b (σ 103 9) (σ 103 8) - 48 := by rw [hsσb, jw_up_ne _ (by omega)]; exact evσaa
            have e9σb : σb 103 9 = σ 103 9 := hfσb.2 9 (by omega) (by omega) (by omega)
            have htσb : jk_tr σb b := jk_tr_f8 ht hfσb (by omega)
            refine jw_W_n 1 (i' := 15) (ls' := [some (.inr (.inr 103)), some (.inl (σ 103 8))]) (st' := []) rfl ?_
            refine jw_W_n 1 (i' := 16) (ls' := [some (.inr (.inr 103)), some (.inl (σ 103 8))]) (st' := [.inr (.inr 103)]) rfl ?_
            refine jw_W_call (as := [.inr (.inr 103)]) (rest := []) rfl rfl rfl rfl (Nat.le_of_ble_eq_true rfl) (.inr rfl) (jk_isDigitR htσb) (by omega) ?_ rfl
            rintro r1 σz (⟨rfl, hs, hq3⟩ | ⟨rfl, hs, hq3⟩)
            · rw [hs]
              rw [e9σb, e8σb] at hq3
              show jw_W (js_S n) _ md_218 17 [some (.inr (.inr 103)), some (.inl (σ 103 8))] [.inl 1] σb _
              refine jw_W_if rfl (by unfold jw_rg; omega) (fun hc4 => ?_) (fun hc4 => ?_)
              · exact absurd hc4 (show ¬ ((1 : Int) = 0) by omega)
              · clear hc4
                refine jw_W_n 1 (i' := 19) (ls' := [some (.inr (.inr 103)), some (.inl (σ 103 8))]) (st' := [.inr (.inr 103)]) rfl ?_
                refine jw_W_gf rfl rfl rfl ?_
                show jw_W (js_S n) _ md_218 20 [some (.inr (.inr 103)), some (.inl (σ 103 8))] [.inl (σb 103 8)] σb _
                refine jw_W_n 3 (i' := 23) (ls' := [some (.inr (.inr 103)), some (.inl (σ 103 8))]) (st' := [.inl (σ 103 8 + 2), .inl (σb 103 8)]) rfl ?_
                refine jw_W_ic rfl (by unfold jw_rg; omega) (by unfold jw_rg; omega) (fun hc5 => ?_) (fun hc5 => ?_)
                · have hc5 : (σb 103 8) ≠ (σ 103 8 + 2) := hc5
                  refine jw_W_n 3 (i' := 33) (ls' := [some (.inr (.inr 103)), some (.inl (σ 103 8))]) (st' := [.inr (.inr 103), .inl 10, .inr (.inr 103)]) rfl ?_
                  refine jw_W_gf rfl rfl rfl ?_
                  show jw_W (js_S n) _ md_218 34 [some (.inr (.inr 103)), some (.inl (σ 103 8))] [.inl (σb 103 11), .inl 10, .inr (.inr 103)] σb _
                  refine jw_W_n 2 (i' := 36) (ls' := [some (.inr (.inr 103)), some (.inl (σ 103 8))]) (st' := [.inr (.inr 103), .inl (10 * (σb 103 11)), .inr (.inr 103)]) rfl ?_
                  refine jw_W_call (as := [.inr (.inr 103)]) (rest := [.inl (10 * (σb 103 11)), .inr (.inr 103)]) rfl rfl rfl rfl (Nat.le_of_ble_eq_true rfl) (.inr rfl) (jk_hereR htσb) (by omega) ?_ rfl
                  rintro r1 σz ⟨rfl, hs⟩
                  rw [hs]
                  rw [e9σb, e8σb]
                  have hrσb := jk_h_rg (b := b) (n := σ 103 9) (i := σ 103 8 + 1) (by omega) hbr
                  show jw_W (js_S n) _ md_218 37 [some (.inr (.inr 103)), some (.inl (σ 103 8))] [.inl (jk_h b (σ 103 9) (σ 103 8 + 1)), .inl (10 * (σb 103 11)), .inr (.inr 103)] σb _
                  refine jw_W_n 3 (i' := 40) (ls' := [some (.inr (.inr 103)), some (.inl (σ 103 8))]) (st' := [.inl (((10 * (σb 103 11)) + (jk_h b (σ 103 9) (σ 103 8 + 1))) - 48), .inr (.inr 103)]) rfl ?_
                  refine jw_W_pf (a := ((10 * (σb 103 11)) + (jk_h b (σ 103 9) (σ 103 8 + 1))) - 48) rfl (by omega) rfl rfl rfl rfl rfl ?_
                  obtain ⟨σbb, hsσbb⟩ : ∃ s, s = jw_up σb 103 11 (((10 * (σb 103 11)) + (jk_h b (σ 103 9) (σ 103 8 + 1))) - 48) := ⟨_, rfl⟩
                  show jw_W (js_S n) _ _ _ _ _ (jw_up σb 103 11 (((10 * (σb 103 11)) + (jk_h b (σ 103 9) (σ 103 8 + 1))) - 48)) _
                  rw [← hsσbb]
                  have hfσbb : jk_f8 σ σbb := by rw [hsσbb]; exact jk_f8_up hfσb (by omega)
                  have e8σbb : σbb 103 8 = σ 103 8 + 1 := by rw [hsσbb, jw_up_ne _ (by omega)]; exact e8σb
                  have evσbb : σbb 103 11 = 10 * (10 * 0 + jk_h b (σ 103 9) (σ 103 8) - 48) + jk_h b (σ 103 9) (σ 103 8 + 1) - 48 := by rw [hsσbb, jw_up_eq]; omega
                  have e9σbb : σbb 103 9 = σ 103 9 := hfσbb.2 9 (by omega) (by omega) (by omega)
                  have htσbb : jk_tr σbb b := jk_tr_f8 ht hfσbb (by omega)
                  refine jw_W_n 2 (i' := 43) (ls' := [some (.inr (.inr 103)), some (.inl (σ 103 8))]) (st' := [.inr (.inr 103), .inr (.inr 103)]) rfl ?_
                  refine jw_W_gf rfl rfl rfl ?_
                  show jw_W (js_S n) _ md_218 44 [some (.inr (.inr 103)), some (.inl (σ 103 8))] [.inl (σbb 103 8), .inr (.inr 103)] σbb _
                  refine jw_W_n 2 (i' := 46) (ls' := [some (.inr (.inr 103)), some (.inl (σ 103 8))]) (st' := [.inl (σbb 103 8 + 1), .inr (.inr 103)]) rfl ?_
                  refine jw_W_pf (a := σbb 103 8 + 1) rfl (by omega) rfl rfl rfl rfl rfl ?_
                  obtain ⟨σc, hsσc⟩ : ∃ s, s = jw_up σbb 103 8 (σbb 103 8 + 1) := ⟨_, rfl⟩
                  show jw_W (js_S n) _ _ _ _ _ (jw_up σbb 103 8 (σbb 103 8 + 1)) _
                  rw [← hsσc]
                  have hfσc : jk_f8 σ σc := by rw [hsσc]; exact jk_f8_up hfσbb (by omega)
                  have e8σc : σc 103 8 = σ 103 8 + 1 + 1 := by rw [hsσc, jw_up_eq]; omega
                  have evσc : σc 103 11 = 10 * (10 * 0 + jk_h b (σ 103 9) (σ 103 8) - 48) + jk_h b (σ 103 9) (σ 103 8 + 1) - 48 := by rw [hsσc, jw_up_ne _ (by omega)]; exact evσbb
                  have e9σc : σc 103 9 = σ 103 9 := hfσc.2 9 (by omega) (by omega) (by omega)
                  have htσc : jk_tr σc b := jk_tr_f8 ht hfσc (by omega)
                  refine jw_W_n 1 (i' := 15) (ls' := [some (.inr (.inr 103)), some (.inl (σ 103 8))]) (st' := []) rfl ?_
                  refine jw_W_n 1 (i' := 16) (ls' := [some (.inr (.inr 103)), some (.inl (σ 103 8))]) (st' := [.inr (.inr 103)]) rfl ?_
                  refine jw_W_call (as := [.inr (.inr 103)]) (rest := []) rfl rfl rfl rfl (Nat.le_of_ble_eq_true rfl) (.inr rfl) (jk_isDigitR htσc) (by omega) ?_ rfl
                  rintro r1 σz (⟨rfl, hs, hq4⟩ | ⟨rfl, hs, hq4⟩)
                  · rw [hs]
                    rw [e9σc, e8σc] at hq4
                    show jw_W (js_S n) _ md_218 17 [some (.inr (.inr 103)), some (.inl (σ 103 8))] [.inl 1] σc _
                    refine jw_W_if rfl (by unfold jw_rg; omega) (fun hc6 => ?_) (fun hc6 => ?_)
                    · exact absurd hc6 (show ¬ ((1 : Int) = 0) by omega)
                    · clear hc6
                      refine jw_W_n 1 (i' := 19) (ls' := [some (.inr (.inr 103)), some (.inl (σ 103 8))]) (st' := [.inr (.inr 103)]) rfl ?_
                      refine jw_W_gf rfl rfl rfl ?_
                      show jw_W (js_S n) _ md_218 20 [some (.inr (.inr 103)), some (.inl (σ 103 8))] [.inl (σc 103 8)] σc _
                      refine jw_W_n 3 (i' := 23) (ls' := [some (.inr (.inr 103)), some (.inl (σ 103 8))]) (st' := [.inl (σ 103 8 + 2), .inl (σc 103 8)]) rfl ?_
                      refine jw_W_ic rfl (by unfold jw_rg; omega) (by unfold jw_rg; omega) (fun hc7 => ?_) (fun hc7 => ?_)
                      · have hc7 : (σc 103 8) ≠ (σ 103 8 + 2) := hc7
                        exfalso; omega
                      · have hc7 : (σc 103 8) = (σ 103 8 + 2) := Classical.not_not.mp hc7
                        refine jw_W_n 3 (i' := 27) (ls' := [some (.inr (.inr 103)), some (.inl (σ 103 8))]) (st' := [.inr (.inr 103), .inl 2, .inr (.inr 103)]) rfl ?_
                        refine jw_W_gf rfl rfl rfl ?_
                        show jw_W (js_S n) _ md_218 28 [some (.inr (.inr 103)), some (.inl (σ 103 8))] [.inl (σc 103 8), .inl 2, .inr (.inr 103)] σc _
                        refine jw_W_call (as := [.inr (.inr 103), .inl 2, .inl (σc 103 8)]) (rest := []) rfl rfl rfl rfl (Nat.le_of_ble_eq_true rfl) (.inr rfl) (jk_wrongAt (by omega) (by omega)) (by omega) ?_ rfl
                        rintro r1 σz ⟨rfl, hs⟩
                        rw [hs]
                        show jw_W (js_S n) _ md_218 29 [some (.inr (.inr 103)), some (.inl (σ 103 8))] [.inl 0] ((jw_up σc 103 10 (-1000 * 2 - σc 103 8))) _
                        refine jw_W_ir rfl ?_
                        exact .inr (.inr (.inr ⟨rfl, by assumption, by assumption, by assumption, jk_f8_up hfσc (by omega), by rw [jw_up_eq]; omega⟩))
                  · rw [hs]
                    rw [e9σc, e8σc] at hq4
                    show jw_W (js_S n) _ md_218 17 [some (.inr (.inr 103)), some (.inl (σ 103 8))] [.inl 0] σc _
                    refine jw_W_if rfl (by unfold jw_rg; omega) (fun hc8 => ?_) (fun hc8 => ?_)
                    · clear hc8
                      refine jw_W_n 1 (i' := 49) (ls' := [some (.inr (.inr 103)), some (.inl (σ 103 8))]) (st' := [.inl 1]) rfl ?_
                      refine jw_W_ir rfl ?_
                      exact .inr (.inr (.inl ⟨rfl, by assumption, by assumption, by assumption, hfσc, by omega, by omega⟩))
                    · exact absurd hc8 (show ¬ ¬ ((0 : Int) = 0) by omega)
                · have hc5 : (σb 103 8) = (σ 103 8 + 2) := Classical.not_not.mp hc5
                  exfalso; omega
            · rw [hs]
              rw [e9σb, e8σb] at hq3
              show jw_W (js_S n) _ md_218 17 [some (.inr (.inr 103)), some (.inl (σ 103 8))] [.inl 0] σb _
              refine jw_W_if rfl (by unfold jw_rg; omega) (fun hc9 => ?_) (fun hc9 => ?_)
              · clear hc9
                refine jw_W_n 1 (i' := 49) (ls' := [some (.inr (.inr 103)), some (.inl (σ 103 8))]) (st' := [.inl 1]) rfl ?_
                refine jw_W_ir rfl ?_
                exact .inr (.inl ⟨rfl, by assumption, by assumption, hfσb, by omega, by omega⟩)
              · exact absurd hc9 (show ¬ ¬ ((0 : Int) = 0) by omega)
          · have hc3 : (σa 103 8) = (σ 103 8 + 2) := Classical.not_not.mp hc3
            exfalso; omega
      · rw [hs]
        rw [e9σa, e8σa] at hq2
        show jw_W (js_S n) _ md_218 17 [some (.inr (.inr 103)), some (.inl (σ 103 8))] [.inl 0] σa _
        refine jw_W_if rfl (by unfold jw_rg; omega) (fun hc10 => ?_) (fun hc10 => ?_)
        · clear hc10
          refine jw_W_n 1 (i' := 49) (ls' := [some (.inr (.inr 103)), some (.inl (σ 103 8))]) (st' := [.inl 1]) rfl ?_
          refine jw_W_ir rfl ?_
          contradiction
        · exact absurd hc10 (show ¬ ¬ ((0 : Int) = 0) by omega)
    · exact absurd hc1 (show ¬ ¬ ((1 : Int) ≠ 0) by omega)
  · rw [hs]
    show jw_W (js_S n) _ md_218 5 [some (.inr (.inr 103)), some (.inl (σ 103 8))] [.inl 0] σ _
    refine jw_W_if rfl (by unfold jw_rg; omega) (fun hc11 => ?_) (fun hc11 => ?_)
    · exact absurd hc11 (show ¬ ((0 : Int) ≠ 0) by omega)
    · clear hc11
      refine jw_W_n 3 (i' := 9) (ls' := [some (.inr (.inr 103)), some (.inl (σ 103 8))]) (st' := [.inr (.inr 103), .inl 1, .inr (.inr 103)]) rfl ?_
      refine jw_W_gf rfl rfl rfl ?_
      show jw_W (js_S n) _ md_218 10 [some (.inr (.inr 103)), some (.inl (σ 103 8))] [.inl (σ 103 8), .inl 1, .inr (.inr 103)] σ _
      refine jw_W_call (as := [.inr (.inr 103), .inl 1, .inl (σ 103 8)]) (rest := []) rfl rfl rfl rfl (Nat.le_of_ble_eq_true rfl) (.inr rfl) (jk_wrongAt (by omega) (by omega)) (by omega) ?_ rfl
      rintro r1 σz ⟨rfl, hs⟩
      rw [hs]
      show jw_W (js_S n) _ md_218 11 [some (.inr (.inr 103)), some (.inl (σ 103 8))] [.inl 0] ((jw_up σ 103 10 (-1000 * 1 - σ 103 8))) _
      refine jw_W_ir rfl ?_
      exact .inl ⟨rfl, by assumption, jk_f8_up (jk_f8_rf σ) (by omega), jw_up_eq _ _ _ _⟩

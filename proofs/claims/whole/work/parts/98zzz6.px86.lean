/-! ===== texts: a number (class) ===== -/
theorem jk_uu (σ : jw_H) (o : Nat) (j a b : Int) : jw_up (jw_up σ o j a) o j b = jw_up σ o j b := by
  funext o' j'
  simp only [jw_up]
  repeat' split
  all_goals rfl
theorem jk_tx_up {σ : jw_H} {T : Nat} {b : Int → Int} (hT : T = 34 ∨ T = 43) (h : jk_tx σ T b) {v : Int} (hv : 0 ≤ v ∧ v ≤ 100000) : jk_tx (jw_up σ T 0 v) T b := by
  obtain ⟨h1, h2, h3, h4⟩ := h
  unfold jk_tx
  rw [jw_up_ne _ (by omega), jw_up_eq, jw_up_ne _ (by omega), jw_up_out _ _ _ (by omega)]
  exact ⟨h1, hv, h3, h4⟩
theorem jk_tx_fl {σ : jw_H} {T : Nat} {b : Int → Int} (hT : T = 34 ∨ T = 43) (h : jk_tx σ T b) (c i : Int) : jk_tx (jk_fl σ T c i) T b := by
  obtain ⟨h1, h2, h3, h4⟩ := h
  unfold jk_tx
  rw [jk_fl_ne _ _ _ _ (by omega), jk_fl_ne _ _ _ _ (by omega), jk_fl_ne _ _ _ _ (by omega)]
  exact ⟨h1, h2, h3, fun j j0 j1 => by rw [jk_fl_ne _ _ _ _ (by omega)]; exact h4 j j0 j1⟩
theorem jk_readNumber {n : Nat} {σ : jw_H} {T : Nat} (hp : jk_to n T) {b : Int → Int} (ht : jk_tx σ T b) (h2 : jw_rg (σ T 2)) (hp9 : σ T 0 ≤ 90000)  : jw_T (js_S n) 2 110 [.inr (.inr T), .inl 2] σ (fun r σ' => ∃ v, r = some (.inl v) ∧ ((¬ jk_dg (jk_h b (σ T 1) (σ T 0)) ∧ v = 0 ∧ σ' = jk_fl σ T 1 (σ T 0)) ∨ (jk_dg (jk_h b (σ T 1) (σ T 0)) ∧ ¬ jk_dg (jk_h b (σ T 1) (σ T 0 + 1)) ∧ v = jk_h b (σ T 1) (σ T 0) - 48 ∧ σ' = jw_up σ T 0 (σ T 0 + 1)) ∨ (jk_dg (jk_h b (σ T 1) (σ T 0)) ∧ jk_dg (jk_h b (σ T 1) (σ T 0 + 1)) ∧ v = 10 * (jk_h b (σ T 1) (σ T 0) - 48) + (jk_h b (σ T 1) (σ T 0 + 1) - 48) ∧ σ' = jw_up σ T 0 (σ T 0 + 2)))) := by
  refine jw_T_of (D := 1) (M := mm_110) rfl (Nat.le_of_ble_eq_true rfl) (ls0 := [some (.inr (.inr T)), some (.inl 2), none, none]) rfl ?_ (by rintro _ _ ⟨_, rfl, -⟩; rfl)
  have ho := hp.1
  have hbr : ∀ j, 0 ≤ j → j < σ T 1 → 0 ≤ b j ∧ b j ≤ 255 := fun j j0 j1 => (ht.2.2.2 j j0 j1).2
  have hq0 := ht.2.1
  refine jw_W_n 2 (i' := 2) (ls' := [some (.inr (.inr T)), some (.inl 2), none, none]) (st' := [.inr (.inr T), .inr (.inr T)]) rfl ?_
  refine jw_W_call (as := [.inr (.inr T)]) (rest := [.inr (.inr T)]) rfl rfl rfl rfl (Nat.le_of_ble_eq_true rfl) (.inr (jx_rc hp.2)) (jk_here hp ht) (by omega) ?_ rfl
  rintro r1 σz ⟨rfl, hs⟩
  rw [hs]
  have hrht := jk_h_rg (b := b) (n := σ T 1) (i := σ T 0) (by omega) hbr
  show jw_W (js_S n) _ md_110 3 [some (.inr (.inr T)), some (.inl 2), none, none] [.inl (jk_h b (σ T 1) (σ T 0)), .inr (.inr T)] σ _
  refine jw_W_call (as := [.inr (.inr T), .inl (jk_h b (σ T 1) (σ T 0))]) (rest := []) rfl rfl rfl rfl (Nat.le_of_ble_eq_true rfl) (.inr (jx_rc hp.2)) (jk_isDigit hp (by unfold jw_rg; omega)) (by omega) ?_ rfl
  rintro r1 σz (⟨rfl, hs, q1⟩ | ⟨rfl, hs, q1⟩)
  · rw [hs]
    show jw_W (js_S n) _ md_110 4 [some (.inr (.inr T)), some (.inl 2), none, none] [.inl 1] σ _
    refine jw_W_if rfl (by unfold jw_rg; omega) (fun hc1 => ?_) (fun hc1 => ?_)
    · clear hc1
      refine jw_W_n 6 (i' := 16) (ls' := [some (.inr (.inr T)), some (.inl 2), some (.inl 0), some (.inl 0)]) (st' := [.inl 2, .inl 0]) rfl ?_
      refine jw_W_ic rfl (by unfold jw_rg; omega) (by unfold jw_rg; omega) (fun hc2 => ?_) (fun hc2 => ?_)
      · exact absurd hc2 (show ¬ ((0 : Int) ≥ 2) by omega)
      · clear hc2
        refine jw_W_n 2 (i' := 19) (ls' := [some (.inr (.inr T)), some (.inl 2), some (.inl 0), some (.inl 0)]) (st' := [.inr (.inr T), .inr (.inr T)]) rfl ?_
        refine jw_W_call (as := [.inr (.inr T)]) (rest := [.inr (.inr T)]) rfl rfl rfl rfl (Nat.le_of_ble_eq_true rfl) (.inr (jx_rc hp.2)) (jk_here hp ht) (by omega) ?_ rfl
        rintro r1 σz ⟨rfl, hs⟩
        rw [hs]
        have hrht := jk_h_rg (b := b) (n := σ T 1) (i := σ T 0) (by omega) hbr
        show jw_W (js_S n) _ md_110 20 [some (.inr (.inr T)), some (.inl 2), some (.inl 0), some (.inl 0)] [.inl (jk_h b (σ T 1) (σ T 0)), .inr (.inr T)] σ _
        refine jw_W_call (as := [.inr (.inr T), .inl (jk_h b (σ T 1) (σ T 0))]) (rest := []) rfl rfl rfl rfl (Nat.le_of_ble_eq_true rfl) (.inr (jx_rc hp.2)) (jk_isDigit hp (by unfold jw_rg; omega)) (by omega) ?_ rfl
        rintro r1 σz (⟨rfl, hs, q2⟩ | ⟨rfl, hs, q2⟩)
        · rw [hs]
          show jw_W (js_S n) _ md_110 21 [some (.inr (.inr T)), some (.inl 2), some (.inl 0), some (.inl 0)] [.inl 1] σ _
          refine jw_W_if rfl (by unfold jw_rg; omega) (fun hc3 => ?_) (fun hc3 => ?_)
          · exact absurd hc3 (show ¬ ((1 : Int) = 0) by omega)
          · clear hc3
            refine jw_W_n 4 (i' := 26) (ls' := [some (.inr (.inr T)), some (.inl 2), some (.inl 0), some (.inl 0)]) (st' := [.inr (.inr T), .inl 0]) rfl ?_
            refine jw_W_call (as := [.inr (.inr T)]) (rest := [.inl 0]) rfl rfl rfl rfl (Nat.le_of_ble_eq_true rfl) (.inr (jx_rc hp.2)) (jk_here hp ht) (by omega) ?_ rfl
            rintro r1 σz ⟨rfl, hs⟩
            rw [hs]
            have hrht := jk_h_rg (b := b) (n := σ T 1) (i := σ T 0) (by omega) hbr
            show jw_W (js_S n) _ md_110 27 [some (.inr (.inr T)), some (.inl 2), some (.inl 0), some (.inl 0)] [.inl (jk_h b (σ T 1) (σ T 0)), .inl 0] σ _
            refine jw_W_n 6 (i' := 33) (ls' := [some (.inr (.inr T)), some (.inl 2), some (.inl ((0 + (jk_h b (σ T 1) (σ T 0))) - 48)), some (.inl 0)]) (st' := [.inr (.inr T), .inr (.inr T)]) rfl ?_
            refine jw_W_gf rfl hp.2 rfl ?_
            show jw_W (js_S n) _ md_110 34 [some (.inr (.inr T)), some (.inl 2), some (.inl ((0 + (jk_h b (σ T 1) (σ T 0))) - 48)), some (.inl 0)] [.inl (σ T 0), .inr (.inr T)] σ _
            refine jw_W_n 2 (i' := 36) (ls' := [some (.inr (.inr T)), some (.inl 2), some (.inl ((0 + (jk_h b (σ T 1) (σ T 0))) - 48)), some (.inl 0)]) (st' := [.inl (σ T 0 + 1), .inr (.inr T)]) rfl ?_
            refine jw_W_pf (a := σ T 0 + 1) rfl (by omega) hp.2 rfl rfl rfl rfl ?_
            obtain ⟨σa, hshta⟩ : ∃ s, s = jw_up σ T 0 (σ T 0 + 1) := ⟨_, rfl⟩
            show jw_W (js_S n) _ _ _ _ _ (jw_up σ T 0 (σ T 0 + 1)) _
            rw [← hshta]
            have hta : jk_tx σa T b := by rw [hshta]; exact jk_tx_up hp.1 ht (by skip; omega)
            have ehta0 : σa T 0 = σ T 0 + 1 := by rw [hshta, jw_up_eq]
            have ehta1 : σa T 1 = σ T 1 := by rw [hshta, jw_up_ne _ (by omega)]
            refine jw_W_n 4 (i' := 16) (ls' := [some (.inr (.inr T)), some (.inl 2), some (.inl ((0 + (jk_h b (σ T 1) (σ T 0))) - 48)), some (.inl 1)]) (st' := [.inl 2, .inl 1]) rfl ?_
            refine jw_W_ic rfl (by unfold jw_rg; omega) (by unfold jw_rg; omega) (fun hc4 => ?_) (fun hc4 => ?_)
            · exact absurd hc4 (show ¬ ((1 : Int) ≥ 2) by omega)
            · clear hc4
              refine jw_W_n 2 (i' := 19) (ls' := [some (.inr (.inr T)), some (.inl 2), some (.inl ((0 + (jk_h b (σ T 1) (σ T 0))) - 48)), some (.inl 1)]) (st' := [.inr (.inr T), .inr (.inr T)]) rfl ?_
              refine jw_W_call (as := [.inr (.inr T)]) (rest := [.inr (.inr T)]) rfl rfl rfl rfl (Nat.le_of_ble_eq_true rfl) (.inr (jx_rc hp.2)) (jk_here hp hta) (by omega) ?_ rfl
              rintro r1 σz ⟨rfl, hs⟩
              rw [hs]
              rw [ehta1, ehta0]
              have hrhta := jk_h_rg (b := b) (n := σ T 1) (i := σ T 0 + 1) (by omega) hbr
              show jw_W (js_S n) _ md_110 20 [some (.inr (.inr T)), some (.inl 2), some (.inl ((0 + (jk_h b (σ T 1) (σ T 0))) - 48)), some (.inl 1)] [.inl (jk_h b (σ T 1) (σ T 0 + 1)), .inr (.inr T)] σa _
              refine jw_W_call (as := [.inr (.inr T), .inl (jk_h b (σ T 1) (σ T 0 + 1))]) (rest := []) rfl rfl rfl rfl (Nat.le_of_ble_eq_true rfl) (.inr (jx_rc hp.2)) (jk_isDigit hp (by unfold jw_rg; omega)) (by omega) ?_ rfl
              rintro r1 σz (⟨rfl, hs, q3⟩ | ⟨rfl, hs, q3⟩)
              · rw [hs]
                show jw_W (js_S n) _ md_110 21 [some (.inr (.inr T)), some (.inl 2), some (.inl ((0 + (jk_h b (σ T 1) (σ T 0))) - 48)), some (.inl 1)] [.inl 1] σa _
                refine jw_W_if rfl (by unfold jw_rg; omega) (fun hc5 => ?_) (fun hc5 => ?_)
                · exact absurd hc5 (show ¬ ((1 : Int) = 0) by omega)
                · clear hc5
                  refine jw_W_n 4 (i' := 26) (ls' := [some (.inr (.inr T)), some (.inl 2), some (.inl ((0 + (jk_h b (σ T 1) (σ T 0))) - 48)), some (.inl 1)]) (st' := [.inr (.inr T), .inl (10 * ((0 + (jk_h b (σ T 1) (σ T 0))) - 48))]) rfl ?_
                  refine jw_W_call (as := [.inr (.inr T)]) (rest := [.inl (10 * ((0 + (jk_h b (σ T 1) (σ T 0))) - 48))]) rfl rfl rfl rfl (Nat.le_of_ble_eq_true rfl) (.inr (jx_rc hp.2)) (jk_here hp hta) (by omega) ?_ rfl
                  rintro r1 σz ⟨rfl, hs⟩
                  rw [hs]
                  rw [ehta1, ehta0]
                  have hrhta := jk_h_rg (b := b) (n := σ T 1) (i := σ T 0 + 1) (by omega) hbr
                  show jw_W (js_S n) _ md_110 27 [some (.inr (.inr T)), some (.inl 2), some (.inl ((0 + (jk_h b (σ T 1) (σ T 0))) - 48)), some (.inl 1)] [.inl (jk_h b (σ T 1) (σ T 0 + 1)), .inl (10 * ((0 + (jk_h b (σ T 1) (σ T 0))) - 48))] σa _
                  refine jw_W_n 6 (i' := 33) (ls' := [some (.inr (.inr T)), some (.inl 2), some (.inl (((10 * ((0 + (jk_h b (σ T 1) (σ T 0))) - 48)) + (jk_h b (σ T 1) (σ T 0 + 1))) - 48)), some (.inl 1)]) (st' := [.inr (.inr T), .inr (.inr T)]) rfl ?_
                  refine jw_W_gf rfl hp.2 rfl ?_
                  show jw_W (js_S n) _ md_110 34 [some (.inr (.inr T)), some (.inl 2), some (.inl (((10 * ((0 + (jk_h b (σ T 1) (σ T 0))) - 48)) + (jk_h b (σ T 1) (σ T 0 + 1))) - 48)), some (.inl 1)] [.inl (σa T 0), .inr (.inr T)] σa _
                  refine jw_W_n 2 (i' := 36) (ls' := [some (.inr (.inr T)), some (.inl 2), some (.inl (((10 * ((0 + (jk_h b (σ T 1) (σ T 0))) - 48)) + (jk_h b (σ T 1) (σ T 0 + 1))) - 48)), some (.inl 1)]) (st' := [.inl (σa T 0 + 1), .inr (.inr T)]) rfl ?_
                  refine jw_W_pf (a := σa T 0 + 1) rfl (by omega) hp.2 rfl rfl rfl rfl ?_
                  obtain ⟨σb, hshtb⟩ : ∃ s, s = jw_up σa T 0 (σa T 0 + 1) := ⟨_, rfl⟩
                  show jw_W (js_S n) _ _ _ _ _ (jw_up σa T 0 (σa T 0 + 1)) _
                  rw [← hshtb]
                  have htb : jk_tx σb T b := by rw [hshtb]; exact jk_tx_up hp.1 hta (by have := ehta0; omega)
                  have ehtb0 : σb T 0 = σ T 0 + 1 + 1 := by rw [hshtb, jw_up_eq]; rw [ehta0]
                  have ehtb1 : σb T 1 = σ T 1 := by rw [hshtb, jw_up_ne _ (by omega)]; exact ehta1
                  refine jw_W_n 4 (i' := 16) (ls' := [some (.inr (.inr T)), some (.inl 2), some (.inl (((10 * ((0 + (jk_h b (σ T 1) (σ T 0))) - 48)) + (jk_h b (σ T 1) (σ T 0 + 1))) - 48)), some (.inl 2)]) (st' := [.inl 2, .inl 2]) rfl ?_
                  refine jw_W_ic rfl (by unfold jw_rg; omega) (by unfold jw_rg; omega) (fun hc6 => ?_) (fun hc6 => ?_)
                  · clear hc6
                    refine jw_W_n 1 (i' := 40) (ls' := [some (.inr (.inr T)), some (.inl 2), some (.inl (((10 * ((0 + (jk_h b (σ T 1) (σ T 0))) - 48)) + (jk_h b (σ T 1) (σ T 0 + 1))) - 48)), some (.inl 2)]) (st' := [.inl (((10 * ((0 + (jk_h b (σ T 1) (σ T 0))) - 48)) + (jk_h b (σ T 1) (σ T 0 + 1))) - 48)]) rfl ?_
                    refine jw_W_ir rfl ?_
                    first | contradiction | exact ⟨_, rfl, .inr (.inr ⟨by assumption, by assumption, by omega, by rw [hshtb, ehta0, hshta, jk_uu, Int.add_assoc]; rfl⟩)⟩
                  · exact absurd hc6 (show ¬ ¬ ((2 : Int) ≥ 2) by omega)
              · rw [hs]
                show jw_W (js_S n) _ md_110 21 [some (.inr (.inr T)), some (.inl 2), some (.inl ((0 + (jk_h b (σ T 1) (σ T 0))) - 48)), some (.inl 1)] [.inl 0] σa _
                refine jw_W_if rfl (by unfold jw_rg; omega) (fun hc7 => ?_) (fun hc7 => ?_)
                · clear hc7
                  refine jw_W_n 1 (i' := 40) (ls' := [some (.inr (.inr T)), some (.inl 2), some (.inl ((0 + (jk_h b (σ T 1) (σ T 0))) - 48)), some (.inl 1)]) (st' := [.inl ((0 + (jk_h b (σ T 1) (σ T 0))) - 48)]) rfl ?_
                  refine jw_W_ir rfl ?_
                  first | contradiction | exact ⟨_, rfl, .inr (.inl ⟨by assumption, by assumption, by omega, by first | exact hshta | rfl⟩)⟩
                · exact absurd hc7 (show ¬ ¬ ((0 : Int) = 0) by omega)
        · rw [hs]
          show jw_W (js_S n) _ md_110 21 [some (.inr (.inr T)), some (.inl 2), some (.inl 0), some (.inl 0)] [.inl 0] σ _
          refine jw_W_if rfl (by unfold jw_rg; omega) (fun hc8 => ?_) (fun hc8 => ?_)
          · clear hc8
            refine jw_W_n 1 (i' := 40) (ls' := [some (.inr (.inr T)), some (.inl 2), some (.inl 0), some (.inl 0)]) (st' := [.inl 0]) rfl ?_
            refine jw_W_ir rfl ?_
            contradiction
          · exact absurd hc8 (show ¬ ¬ ((0 : Int) = 0) by omega)
    · exact absurd hc1 (show ¬ ¬ ((1 : Int) ≠ 0) by omega)
  · rw [hs]
    show jw_W (js_S n) _ md_110 4 [some (.inr (.inr T)), some (.inl 2), none, none] [.inl 0] σ _
    refine jw_W_if rfl (by unfold jw_rg; omega) (fun hc9 => ?_) (fun hc9 => ?_)
    · exact absurd hc9 (show ¬ ((0 : Int) ≠ 0) by omega)
    · clear hc9
      refine jw_W_n 3 (i' := 8) (ls' := [some (.inr (.inr T)), some (.inl 2), none, none]) (st' := [.inr (.inr T), .inl 1, .inr (.inr T)]) rfl ?_
      refine jw_W_gf rfl hp.2 rfl ?_
      show jw_W (js_S n) _ md_110 9 [some (.inr (.inr T)), some (.inl 2), none, none] [.inl (σ T 0), .inl 1, .inr (.inr T)] σ _
      refine jw_W_call (as := [.inr (.inr T), .inl 1, .inl (σ T 0)]) (rest := []) rfl rfl rfl rfl (Nat.le_of_ble_eq_true rfl) (.inr (jx_rc hp.2)) (jk_fail hp (by omega) (by omega) h2) (by omega) ?_ rfl
      rintro r1 σ1 ⟨rfl, hs⟩
      have hs2 : σ1 = jk_fl σ T 1 (σ T 0) := hs
      have ht1 : jk_tx σ1 T b := by rw [hs2]; exact jk_tx_fl hp.1 ht _ _
      have eht10 : σ1 T 0 = σ T 0 := by rw [hs2]; exact jk_fl_ne _ _ _ _ (by omega)
      have eht11 : σ1 T 1 = σ T 1 := by rw [hs2]; exact jk_fl_ne _ _ _ _ (by omega)
      show jw_W (js_S n) _ md_110 10 [some (.inr (.inr T)), some (.inl 2), none, none] [] σ1 _
      refine jw_W_n 6 (i' := 16) (ls' := [some (.inr (.inr T)), some (.inl 2), some (.inl 0), some (.inl 0)]) (st' := [.inl 2, .inl 0]) rfl ?_
      refine jw_W_ic rfl (by unfold jw_rg; omega) (by unfold jw_rg; omega) (fun hc10 => ?_) (fun hc10 => ?_)
      · exact absurd hc10 (show ¬ ((0 : Int) ≥ 2) by omega)
      · clear hc10
        refine jw_W_n 2 (i' := 19) (ls' := [some (.inr (.inr T)), some (.inl 2), some (.inl 0), some (.inl 0)]) (st' := [.inr (.inr T), .inr (.inr T)]) rfl ?_
        refine jw_W_call (as := [.inr (.inr T)]) (rest := [.inr (.inr T)]) rfl rfl rfl rfl (Nat.le_of_ble_eq_true rfl) (.inr (jx_rc hp.2)) (jk_here hp ht1) (by omega) ?_ rfl
        rintro r1 σz ⟨rfl, hs⟩
        rw [hs]
        rw [eht11, eht10]
        have hrht1 := jk_h_rg (b := b) (n := σ T 1) (i := σ T 0) (by omega) hbr
        show jw_W (js_S n) _ md_110 20 [some (.inr (.inr T)), some (.inl 2), some (.inl 0), some (.inl 0)] [.inl (jk_h b (σ T 1) (σ T 0)), .inr (.inr T)] σ1 _
        refine jw_W_call (as := [.inr (.inr T), .inl (jk_h b (σ T 1) (σ T 0))]) (rest := []) rfl rfl rfl rfl (Nat.le_of_ble_eq_true rfl) (.inr (jx_rc hp.2)) (jk_isDigit hp (by unfold jw_rg; omega)) (by omega) ?_ rfl
        rintro r1 σz (⟨rfl, hs, q4⟩ | ⟨rfl, hs, q4⟩)
        · rw [hs]
          show jw_W (js_S n) _ md_110 21 [some (.inr (.inr T)), some (.inl 2), some (.inl 0), some (.inl 0)] [.inl 1] σ1 _
          refine jw_W_if rfl (by unfold jw_rg; omega) (fun hc11 => ?_) (fun hc11 => ?_)
          · exact absurd hc11 (show ¬ ((1 : Int) = 0) by omega)
          · clear hc11
            refine jw_W_n 4 (i' := 26) (ls' := [some (.inr (.inr T)), some (.inl 2), some (.inl 0), some (.inl 0)]) (st' := [.inr (.inr T), .inl 0]) rfl ?_
            refine jw_W_call (as := [.inr (.inr T)]) (rest := [.inl 0]) rfl rfl rfl rfl (Nat.le_of_ble_eq_true rfl) (.inr (jx_rc hp.2)) (jk_here hp ht1) (by omega) ?_ rfl
            rintro r1 σz ⟨rfl, hs⟩
            rw [hs]
            rw [eht11, eht10]
            have hrht1 := jk_h_rg (b := b) (n := σ T 1) (i := σ T 0) (by omega) hbr
            show jw_W (js_S n) _ md_110 27 [some (.inr (.inr T)), some (.inl 2), some (.inl 0), some (.inl 0)] [.inl (jk_h b (σ T 1) (σ T 0)), .inl 0] σ1 _
            refine jw_W_n 6 (i' := 33) (ls' := [some (.inr (.inr T)), some (.inl 2), some (.inl ((0 + (jk_h b (σ T 1) (σ T 0))) - 48)), some (.inl 0)]) (st' := [.inr (.inr T), .inr (.inr T)]) rfl ?_
            refine jw_W_gf rfl hp.2 rfl ?_
            show jw_W (js_S n) _ md_110 34 [some (.inr (.inr T)), some (.inl 2), some (.inl ((0 + (jk_h b (σ T 1) (σ T 0))) - 48)), some (.inl 0)] [.inl (σ1 T 0), .inr (.inr T)] σ1 _
            refine jw_W_n 2 (i' := 36) (ls' := [some (.inr (.inr T)), some (.inl 2), some (.inl ((0 + (jk_h b (σ T 1) (σ T 0))) - 48)), some (.inl 0)]) (st' := [.inl (σ1 T 0 + 1), .inr (.inr T)]) rfl ?_
            refine jw_W_pf (a := σ1 T 0 + 1) rfl (by omega) hp.2 rfl rfl rfl rfl ?_
            obtain ⟨σ1a, hsht1a⟩ : ∃ s, s = jw_up σ1 T 0 (σ1 T 0 + 1) := ⟨_, rfl⟩
            show jw_W (js_S n) _ _ _ _ _ (jw_up σ1 T 0 (σ1 T 0 + 1)) _
            rw [← hsht1a]
            have ht1a : jk_tx σ1a T b := by rw [hsht1a]; exact jk_tx_up hp.1 ht1 (by have := eht10; omega)
            have eht1a0 : σ1a T 0 = σ T 0 + 1 := by rw [hsht1a, jw_up_eq]; rw [eht10]
            have eht1a1 : σ1a T 1 = σ T 1 := by rw [hsht1a, jw_up_ne _ (by omega)]; exact eht11
            refine jw_W_n 4 (i' := 16) (ls' := [some (.inr (.inr T)), some (.inl 2), some (.inl ((0 + (jk_h b (σ T 1) (σ T 0))) - 48)), some (.inl 1)]) (st' := [.inl 2, .inl 1]) rfl ?_
            refine jw_W_ic rfl (by unfold jw_rg; omega) (by unfold jw_rg; omega) (fun hc12 => ?_) (fun hc12 => ?_)
            · exact absurd hc12 (show ¬ ((1 : Int) ≥ 2) by omega)
            · clear hc12
              refine jw_W_n 2 (i' := 19) (ls' := [some (.inr (.inr T)), some (.inl 2), some (.inl ((0 + (jk_h b (σ T 1) (σ T 0))) - 48)), some (.inl 1)]) (st' := [.inr (.inr T), .inr (.inr T)]) rfl ?_
              refine jw_W_call (as := [.inr (.inr T)]) (rest := [.inr (.inr T)]) rfl rfl rfl rfl (Nat.le_of_ble_eq_true rfl) (.inr (jx_rc hp.2)) (jk_here hp ht1a) (by omega) ?_ rfl
              rintro r1 σz ⟨rfl, hs⟩
              rw [hs]
              rw [eht1a1, eht1a0]
              have hrht1a := jk_h_rg (b := b) (n := σ T 1) (i := σ T 0 + 1) (by omega) hbr
              show jw_W (js_S n) _ md_110 20 [some (.inr (.inr T)), some (.inl 2), some (.inl ((0 + (jk_h b (σ T 1) (σ T 0))) - 48)), some (.inl 1)] [.inl (jk_h b (σ T 1) (σ T 0 + 1)), .inr (.inr T)] σ1a _
              refine jw_W_call (as := [.inr (.inr T), .inl (jk_h b (σ T 1) (σ T 0 + 1))]) (rest := []) rfl rfl rfl rfl (Nat.le_of_ble_eq_true rfl) (.inr (jx_rc hp.2)) (jk_isDigit hp (by unfold jw_rg; omega)) (by omega) ?_ rfl
              rintro r1 σz (⟨rfl, hs, q5⟩ | ⟨rfl, hs, q5⟩)
              · rw [hs]
                show jw_W (js_S n) _ md_110 21 [some (.inr (.inr T)), some (.inl 2), some (.inl ((0 + (jk_h b (σ T 1) (σ T 0))) - 48)), some (.inl 1)] [.inl 1] σ1a _
                refine jw_W_if rfl (by unfold jw_rg; omega) (fun hc13 => ?_) (fun hc13 => ?_)
                · exact absurd hc13 (show ¬ ((1 : Int) = 0) by omega)
                · clear hc13
                  refine jw_W_n 4 (i' := 26) (ls' := [some (.inr (.inr T)), some (.inl 2), some (.inl ((0 + (jk_h b (σ T 1) (σ T 0))) - 48)), some (.inl 1)]) (st' := [.inr (.inr T), .inl (10 * ((0 + (jk_h b (σ T 1) (σ T 0))) - 48))]) rfl ?_
                  refine jw_W_call (as := [.inr (.inr T)]) (rest := [.inl (10 * ((0 + (jk_h b (σ T 1) (σ T 0))) - 48))]) rfl rfl rfl rfl (Nat.le_of_ble_eq_true rfl) (.inr (jx_rc hp.2)) (jk_here hp ht1a) (by omega) ?_ rfl
                  rintro r1 σz ⟨rfl, hs⟩
                  rw [hs]
                  rw [eht1a1, eht1a0]
                  have hrht1a := jk_h_rg (b := b) (n := σ T 1) (i := σ T 0 + 1) (by omega) hbr
                  show jw_W (js_S n) _ md_110 27 [some (.inr (.inr T)), some (.inl 2), some (.inl ((0 + (jk_h b (σ T 1) (σ T 0))) - 48)), some (.inl 1)] [.inl (jk_h b (σ T 1) (σ T 0 + 1)), .inl (10 * ((0 + (jk_h b (σ T 1) (σ T 0))) - 48))] σ1a _
                  refine jw_W_n 6 (i' := 33) (ls' := [some (.inr (.inr T)), some (.inl 2), some (.inl (((10 * ((0 + (jk_h b (σ T 1) (σ T 0))) - 48)) + (jk_h b (σ T 1) (σ T 0 + 1))) - 48)), some (.inl 1)]) (st' := [.inr (.inr T), .inr (.inr T)]) rfl ?_
                  refine jw_W_gf rfl hp.2 rfl ?_
                  show jw_W (js_S n) _ md_110 34 [some (.inr (.inr T)), some (.inl 2), some (.inl (((10 * ((0 + (jk_h b (σ T 1) (σ T 0))) - 48)) + (jk_h b (σ T 1) (σ T 0 + 1))) - 48)), some (.inl 1)] [.inl (σ1a T 0), .inr (.inr T)] σ1a _
                  refine jw_W_n 2 (i' := 36) (ls' := [some (.inr (.inr T)), some (.inl 2), some (.inl (((10 * ((0 + (jk_h b (σ T 1) (σ T 0))) - 48)) + (jk_h b (σ T 1) (σ T 0 + 1))) - 48)), some (.inl 1)]) (st' := [.inl (σ1a T 0 + 1), .inr (.inr T)]) rfl ?_
                  refine jw_W_pf (a := σ1a T 0 + 1) rfl (by omega) hp.2 rfl rfl rfl rfl ?_
                  obtain ⟨σ1b, hsht1b⟩ : ∃ s, s = jw_up σ1a T 0 (σ1a T 0 + 1) := ⟨_, rfl⟩
                  show jw_W (js_S n) _ _ _ _ _ (jw_up σ1a T 0 (σ1a T 0 + 1)) _
                  rw [← hsht1b]
                  have ht1b : jk_tx σ1b T b := by rw [hsht1b]; exact jk_tx_up hp.1 ht1a (by have := eht1a0; omega)
                  have eht1b0 : σ1b T 0 = σ T 0 + 1 + 1 := by rw [hsht1b, jw_up_eq]; rw [eht1a0]
                  have eht1b1 : σ1b T 1 = σ T 1 := by rw [hsht1b, jw_up_ne _ (by omega)]; exact eht1a1
                  refine jw_W_n 4 (i' := 16) (ls' := [some (.inr (.inr T)), some (.inl 2), some (.inl (((10 * ((0 + (jk_h b (σ T 1) (σ T 0))) - 48)) + (jk_h b (σ T 1) (σ T 0 + 1))) - 48)), some (.inl 2)]) (st' := [.inl 2, .inl 2]) rfl ?_
                  refine jw_W_ic rfl (by unfold jw_rg; omega) (by unfold jw_rg; omega) (fun hc14 => ?_) (fun hc14 => ?_)
                  · clear hc14
                    refine jw_W_n 1 (i' := 40) (ls' := [some (.inr (.inr T)), some (.inl 2), some (.inl (((10 * ((0 + (jk_h b (σ T 1) (σ T 0))) - 48)) + (jk_h b (σ T 1) (σ T 0 + 1))) - 48)), some (.inl 2)]) (st' := [.inl (((10 * ((0 + (jk_h b (σ T 1) (σ T 0))) - 48)) + (jk_h b (σ T 1) (σ T 0 + 1))) - 48)]) rfl ?_
                    refine jw_W_ir rfl ?_
                    first | contradiction | exact ⟨_, rfl, .inl ⟨by assumption, rfl, hs2⟩⟩
                  · exact absurd hc14 (show ¬ ¬ ((2 : Int) ≥ 2) by omega)
              · rw [hs]
                show jw_W (js_S n) _ md_110 21 [some (.inr (.inr T)), some (.inl 2), some (.inl ((0 + (jk_h b (σ T 1) (σ T 0))) - 48)), some (.inl 1)] [.inl 0] σ1a _
                refine jw_W_if rfl (by unfold jw_rg; omega) (fun hc15 => ?_) (fun hc15 => ?_)
                · clear hc15
                  refine jw_W_n 1 (i' := 40) (ls' := [some (.inr (.inr T)), some (.inl 2), some (.inl ((0 + (jk_h b (σ T 1) (σ T 0))) - 48)), some (.inl 1)]) (st' := [.inl ((0 + (jk_h b (σ T 1) (σ T 0))) - 48)]) rfl ?_
                  refine jw_W_ir rfl ?_
                  first | contradiction | exact ⟨_, rfl, .inl ⟨by assumption, rfl, hs2⟩⟩
                · exact absurd hc15 (show ¬ ¬ ((0 : Int) = 0) by omega)
        · rw [hs]
          show jw_W (js_S n) _ md_110 21 [some (.inr (.inr T)), some (.inl 2), some (.inl 0), some (.inl 0)] [.inl 0] σ1 _
          refine jw_W_if rfl (by unfold jw_rg; omega) (fun hc16 => ?_) (fun hc16 => ?_)
          · clear hc16
            refine jw_W_n 1 (i' := 40) (ls' := [some (.inr (.inr T)), some (.inl 2), some (.inl 0), some (.inl 0)]) (st' := [.inl 0]) rfl ?_
            refine jw_W_ir rfl ?_
            first | contradiction | exact ⟨_, rfl, .inl ⟨by assumption, rfl, hs2⟩⟩
          · exact absurd hc16 (show ¬ ¬ ((0 : Int) = 0) by omega)

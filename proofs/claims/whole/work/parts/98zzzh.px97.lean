/-! ===== the class's lines: of, box ===== -/
theorem jk_readOf {n : Nat} {σ : jw_H} {o : Nat} {b : Int → Int} {m : Int} {s : jw_H} (hX : jk_X n o b m σ) (hrl : jk_rl o σ s)  : jw_T (js_S n) 2 83 [.inr (.inr 33)] σ (fun r σ' => r = none ∧ jk_X n o b m σ' ∧ jk_D o σ σ' ∧ jk_rs o σ' (jk_po b m s (s 0 1))) := by
  refine jw_T_of (D := 1) (M := mm_83) rfl (Nat.le_of_ble_eq_true rfl) (ls0 := [some (.inr (.inr 33)), none]) rfl ?_ (by rintro _ _ ⟨rfl, -⟩; rfl)
  have hto := hX.2.1
  have hpo := hX.1
  have hp0 := hpo.1
  have hob : 15 ≤ o ∧ o ≤ 27 := by omega
  have h4 := hX.2.2.2.2.1
  have h5 := hX.2.2.2.2.2.1
  have hh0 := jk_X_h hX h4.1
  refine jw_W_n 1 (i' := 1) (ls' := [some (.inr (.inr 33)), none]) (st' := [.inr (.inr 33)]) rfl ?_
  refine jw_W_gf rfl rfl rfl ?_
  show jw_W (js_S n) _ md_83 2 [some (.inr (.inr 33)), none] [.inr (.inr 34)] σ _
  refine jw_W_call (as := [.inr (.inr 34)]) (rest := []) rfl rfl rfl rfl (Nat.le_of_ble_eq_true rfl) (.inr rfl) (jk_hereX hX) (by omega) ?_ rfl
  rintro r1 σz ⟨rfl, hs⟩
  rw [hs]
  show jw_W (js_S n) _ md_83 3 [some (.inr (.inr 33)), none] [.inl (jk_h b m (σ 34 0))] σ _
  refine jw_W_n 3 (i' := 6) (ls' := [some (.inr (.inr 33)), some (.inl (jk_h b m (σ 34 0)))]) (st' := [.inl 49, .inl (jk_h b m (σ 34 0))]) rfl ?_
  refine jw_W_ic rfl (by unfold jw_rg; omega) (by unfold jw_rg; omega) (fun hc1 => ?_) (fun hc1 => ?_)
  · have hc1 : (jk_h b m (σ 34 0)) < 49 := hc1
    refine jw_W_n 1 (i' := 25) (ls' := [some (.inr (.inr 33)), some (.inl (jk_h b m (σ 34 0)))]) (st' := [.inr (.inr 33)]) rfl ?_
    refine jw_W_gf rfl rfl rfl ?_
    show jw_W (js_S n) _ md_83 26 [some (.inr (.inr 33)), some (.inl (jk_h b m (σ 34 0)))] [.inr (.inr 34)] σ _
    refine jw_W_n 2 (i' := 28) (ls' := [some (.inr (.inr 33)), some (.inl (jk_h b m (σ 34 0)))]) (st' := [.inr (.inr 33), .inl 1, .inr (.inr 34)]) rfl ?_
    refine jw_W_gf rfl rfl rfl ?_
    show jw_W (js_S n) _ md_83 29 [some (.inr (.inr 33)), some (.inl (jk_h b m (σ 34 0)))] [.inr (.inr 34), .inl 1, .inr (.inr 34)] σ _
    refine jw_W_gf rfl rfl rfl ?_
    show jw_W (js_S n) _ md_83 30 [some (.inr (.inr 33)), some (.inl (jk_h b m (σ 34 0)))] [.inl (σ 34 0), .inl 1, .inr (.inr 34)] σ _
    refine jw_W_call (as := [.inr (.inr 34), .inl 1, .inl (σ 34 0)]) (rest := []) rfl rfl rfl rfl (Nat.le_of_ble_eq_true rfl) (.inr rfl) (jk_failX hX (by omega) (by omega)) (by omega) ?_ rfl
    rintro r1 σ2 ⟨rfl, hE2, h20, h22⟩
    rename jw_H => σ2
    show jw_W (js_S n) _ md_83 31 [some (.inr (.inr 33)), some (.inl (jk_h b m (σ 34 0)))] [] σ2 _
    refine jw_W_re rfl ?_
    refine ⟨rfl, hE2.1, hE2.2.1, ?_⟩
    rw [jk_po_1 (by rw [← hrl.2.2.1]; omega)]
    exact jk_rs_bad (by rw [h22 hrl.1, hrl.2.2.1]) (by have := hrl.2.2.1; omega)
  · have hc1 : ¬ ((jk_h b m (σ 34 0)) < 49) := hc1
    refine jw_W_n 2 (i' := 9) (ls' := [some (.inr (.inr 33)), some (.inl (jk_h b m (σ 34 0)))]) (st' := [.inl 51, .inl (jk_h b m (σ 34 0))]) rfl ?_
    refine jw_W_ic rfl (by unfold jw_rg; omega) (by unfold jw_rg; omega) (fun hc2 => ?_) (fun hc2 => ?_)
    · have hc2 : (jk_h b m (σ 34 0)) > 51 := hc2
      refine jw_W_n 1 (i' := 25) (ls' := [some (.inr (.inr 33)), some (.inl (jk_h b m (σ 34 0)))]) (st' := [.inr (.inr 33)]) rfl ?_
      refine jw_W_gf rfl rfl rfl ?_
      show jw_W (js_S n) _ md_83 26 [some (.inr (.inr 33)), some (.inl (jk_h b m (σ 34 0)))] [.inr (.inr 34)] σ _
      refine jw_W_n 2 (i' := 28) (ls' := [some (.inr (.inr 33)), some (.inl (jk_h b m (σ 34 0)))]) (st' := [.inr (.inr 33), .inl 1, .inr (.inr 34)]) rfl ?_
      refine jw_W_gf rfl rfl rfl ?_
      show jw_W (js_S n) _ md_83 29 [some (.inr (.inr 33)), some (.inl (jk_h b m (σ 34 0)))] [.inr (.inr 34), .inl 1, .inr (.inr 34)] σ _
      refine jw_W_gf rfl rfl rfl ?_
      show jw_W (js_S n) _ md_83 30 [some (.inr (.inr 33)), some (.inl (jk_h b m (σ 34 0)))] [.inl (σ 34 0), .inl 1, .inr (.inr 34)] σ _
      refine jw_W_call (as := [.inr (.inr 34), .inl 1, .inl (σ 34 0)]) (rest := []) rfl rfl rfl rfl (Nat.le_of_ble_eq_true rfl) (.inr rfl) (jk_failX hX (by omega) (by omega)) (by omega) ?_ rfl
      rintro r1 σ2 ⟨rfl, hE2, h20, h22⟩
      rename jw_H => σ2
      show jw_W (js_S n) _ md_83 31 [some (.inr (.inr 33)), some (.inl (jk_h b m (σ 34 0)))] [] σ2 _
      refine jw_W_re rfl ?_
      refine ⟨rfl, hE2.1, hE2.2.1, ?_⟩
      rw [jk_po_1 (by rw [← hrl.2.2.1]; omega)]
      exact jk_rs_bad (by rw [h22 hrl.1, hrl.2.2.1]) (by have := hrl.2.2.1; omega)
    · have hc2 : ¬ ((jk_h b m (σ 34 0)) > 51) := hc2
      refine jw_W_n 1 (i' := 11) (ls' := [some (.inr (.inr 33)), some (.inl (jk_h b m (σ 34 0)))]) (st' := [.inr (.inr 33)]) rfl ?_
      refine jw_W_gf rfl rfl rfl ?_
      show jw_W (js_S n) _ md_83 12 [some (.inr (.inr 33)), some (.inl (jk_h b m (σ 34 0)))] [.inr (.inr ((σ 33 2).toNat))] σ _
      rw [hto]
      refine jw_W_n 3 (i' := 15) (ls' := [some (.inr (.inr 33)), some (.inl (jk_h b m (σ 34 0)))]) (st' := [.inl ((jk_h b m (σ 34 0)) - 48), .inr (.inr o)]) rfl ?_
      refine jw_W_pf (a := (jk_h b m (σ 34 0)) - 48) rfl (by omega) hpo.2.1 rfl rfl rfl rfl ?_
      refine jw_W_n 1 (i' := 17) (ls' := [some (.inr (.inr 33)), some (.inl (jk_h b m (σ 34 0)))]) (st' := [.inr (.inr 33)]) rfl ?_
      refine jw_W_gf rfl rfl rfl ?_
      show jw_W (js_S n) _ md_83 18 [some (.inr (.inr 33)), some (.inl (jk_h b m (σ 34 0)))] [.inr (.inr 34)] ((jw_up σ o 0 ((jk_h b m (σ 34 0)) - 48))) _
      refine jw_W_n 1 (i' := 19) (ls' := [some (.inr (.inr 33)), some (.inl (jk_h b m (σ 34 0)))]) (st' := [.inr (.inr 34), .inr (.inr 34)]) rfl ?_
      refine jw_W_gf rfl rfl rfl ?_
      show jw_W (js_S n) _ md_83 20 [some (.inr (.inr 33)), some (.inl (jk_h b m (σ 34 0)))] [.inl ((jw_up σ o 0 ((jk_h b m (σ 34 0)) - 48)) 34 0), .inr (.inr 34)] ((jw_up σ o 0 ((jk_h b m (σ 34 0)) - 48))) _
      rw [jw_up_out σ _ _ (show 34 ≠ o by omega)]
      refine jw_W_n 2 (i' := 22) (ls' := [some (.inr (.inr 33)), some (.inl (jk_h b m (σ 34 0)))]) (st' := [.inl (σ 34 0 + 1), .inr (.inr 34)]) rfl ?_
      refine jw_W_pf (a := σ 34 0 + 1) rfl (by omega) rfl rfl rfl rfl rfl ?_
      refine jw_W_n 1 (i' := 31) (ls' := [some (.inr (.inr 33)), some (.inl (jk_h b m (σ 34 0)))]) (st' := []) rfl ?_
      refine jw_W_re rfl ?_
      have k1 := jk_XD_f hX (j := 0) (v := jk_h b m (σ 34 0) - 48) (by omega)
      have k2 := jk_E_at k1.1 (by rw [jw_up_out _ _ _ (by omega)]; exact hh0.2.2 (by omega))
      rw [jw_up_out σ _ _ (show 34 ≠ o by omega)] at k2
      refine ⟨rfl, k2.1, jk_D_tr k1.2 k2.2.1, ?_⟩
      obtain ⟨g0, g1, g2, g3, g4, g5, g6, g7, g8, g9, g10⟩ := hrl
      rw [jk_po_2 (by rw [← g2]; omega)]
      have hco : ∀ c, c ≠ o → c ≠ 34 → ∀ j, jw_up (jw_up σ o 0 (jk_h b m (σ 34 0) - 48)) 34 0 (σ 34 0 + 1) c j = σ c j := fun c h1 h2 j => by rw [jw_up_out _ _ _ h2, jw_up_out _ _ _ h1]
      have hof : ∀ j, j ≠ 0 → jw_up (jw_up σ o 0 (jk_h b m (σ 34 0) - 48)) 34 0 (σ 34 0 + 1) o j = σ o j := fun j hj => by rw [jw_up_out _ _ _ (by omega), jw_up_ne _ (by omega)]
      have e2 : jw_up (jw_up σ o 0 (jk_h b m (σ 34 0) - 48)) 34 0 (σ 34 0 + 1) 34 2 = 0 := by rw [jw_up_ne _ (by omega), jw_up_out _ _ _ (by omega)]; exact g0
      refine ⟨e2, fun _ => ⟨e2, rfl, ?_, ?_, ?_, ?_, ?_, ?_, ?_, ?_, ?_⟩⟩
      · show _ = s 0 1 + 1
        rw [← g2]
        exact jw_up_eq _ _ _ _
      · show _ = jk_h b m (s 0 1) - 48
        rw [← g2, jw_up_out _ _ _ (by omega), jw_up_eq]
      · exact (hof 1 (by omega)).trans g4
      · exact (hof 2 (by omega)).trans g5
      · exact (hco 33 (by omega) (by omega) 1).trans g6
      · exact fun j j0 j1 => (hco (o + 1) (by omega) (by omega) j).trans (g7 j j0 j1)
      · exact fun j j0 j1 => (hco (o + 2) (by omega) (by omega) j).trans (g8 j j0 j1)
      · exact fun j j0 j1 => ⟨(hco (o + 3) (by omega) (by omega) j).trans (g9 j j0 j1).1, (hco (o + 4) (by omega) (by omega) j).trans (g9 j j0 j1).2⟩
      · exact fun j j0 j1 => (hco (o + 5) (by omega) (by omega) j).trans (g10 j j0 j1)
theorem jk_box7 : ∀ m : Fin 8, ∀ v : Fin 3, 0 ≤ jw_or ((m.val : Nat) : Int) (jw_shl 1 ((v.val : Nat) : Int)) ∧ jw_or ((m.val : Nat) : Int) (jw_shl 1 ((v.val : Nat) : Int)) ≤ 7 ∧ 0 ≤ jw_and ((m.val : Nat) : Int) (jw_shl 1 ((v.val : Nat) : Int)) ∧ jw_and ((m.val : Nat) : Int) (jw_shl 1 ((v.val : Nat) : Int)) ≤ 7 := by decide +kernel
theorem jk_box8 {x v : Int} (hx : 0 ≤ x ∧ x ≤ 7) (hv : 0 ≤ v ∧ v < 3) : (0 ≤ jw_or x (jw_shl 1 v) ∧ jw_or x (jw_shl 1 v) ≤ 7) ∧ (0 ≤ jw_and x (jw_shl 1 v) ∧ jw_and x (jw_shl 1 v) ≤ 7) := by
  obtain ⟨k, rfl⟩ : ∃ k : Nat, x = k := ⟨x.toNat, by omega⟩
  obtain ⟨l, rfl⟩ : ∃ l : Nat, v = l := ⟨v.toNat, by omega⟩
  have := jk_box7 ⟨k, by omega⟩ ⟨l, by omega⟩
  exact ⟨⟨this.1, this.2.1⟩, this.2.2⟩
def jk_bq (b : Int → Int) (m : Int) (s : jw_H) (i v : Int) (τ : jw_H) : Prop := (∃ F, τ 34 2 = F ∧ F ≠ 0 ∧ jk_pbx b m s i = jk_bad F) ∨ (τ 34 2 = 0 ∧ τ 34 0 = i + 1 ∧ jk_let (jk_h b m i) ∧ v = jk_h b m i - 120 ∧ v < s 0 2 ∧ jw_and (s 0 5) (jw_shl 1 v) = 0)
theorem jk_box_end {n o : Nat} {b : Int → Int} {m : Int} {σ τ σ3 σ4 σ5 σ6 s : jw_H} {v w : Int} (hX : jk_X n o b m σ) (hrl : jk_rl o σ s) (hE2 : jk_E n o b m σ τ) (hQ : jk_bq b m s (s 0 1) v τ) (hv3 : 0 ≤ v ∧ v < 3)
    (h3 : jk_E n o b m (jw_up τ 33 1 (jw_or (σ 33 1) (jw_shl 1 v))) σ3 ∧ ((jk_h b m (τ 34 0) = 60 ∧ σ3 34 2 = τ 34 2 ∧ σ3 34 0 = τ 34 0 + 1) ∨ (jk_h b m (τ 34 0) ≠ 60 ∧ (τ 34 2 = 0 → σ3 34 2 = -1000 * 1 - τ 34 0))))
    (h4 : jk_E n o b m σ3 σ4 ∧ (σ3 34 2 = 0 → σ4 34 2 = (jk_n2 b m (σ3 34 0)).1 ∧ ((jk_n2 b m (σ3 34 0)).1 = 0 → w = (jk_n2 b m (σ3 34 0)).2.1 ∧ σ4 34 0 = (jk_n2 b m (σ3 34 0)).2.2)))
    (h5 : jk_E n o b m σ4 σ5 ∧ σ5 34 0 = σ4 34 0 ∧ ((¬ jk_dg (jk_h b m (σ4 34 0)) ∧ σ5 34 2 = σ4 34 2) ∨ (jk_dg (jk_h b m (σ4 34 0)) ∧ (σ4 34 2 = 0 → σ5 34 2 = -1000 * 2 - σ4 34 0))))
    (h6 : ((1 ≤ w ∧ w ≤ 9) ∧ σ6 = σ5) ∨ (¬ (1 ≤ w ∧ w ≤ 9) ∧ jk_E n o b m σ5 σ6 ∧ (σ5 34 2 = 0 → σ6 34 2 = -1000 * 3 - σ3 34 0))) :
    jk_rs o (jw_up σ6 (o + 5) v w) (jk_pbx b m s (s 0 1)) := by
  have hpo := hX.1.1
  obtain ⟨g0, g1, g2, g3, g4, g5, g6, g7, g8, g9, g10⟩ := hrl
  have h0 := hX.2.2.2.2.1
  have ef : ∀ j, jw_up σ6 (o + 5) v w 34 j = σ6 34 j := fun j => by rw [jw_up_out _ _ _ (by omega)]
  have st3 := h3.1.2.1.2.2.1
  rw [jw_up_out τ _ _ (show 34 ≠ 33 by omega)] at st3
  have st4 := h4.1.2.1.2.2.1
  have st5 := h5.1.2.1.2.2.1
  have st6 : σ5 34 2 ≠ 0 → σ6 34 2 = σ5 34 2 := by
    rcases h6 with ⟨-, h6⟩ | ⟨-, h6, -⟩
    · rw [h6]
      exact fun _ => rfl
    · exact h6.2.1.2.2.1
  have all3 : ∀ F, σ3 34 2 = F → F ≠ 0 → σ6 34 2 = F := fun F e hF => by
    have e4 := st4 (by rw [e]; exact hF)
    have e5 := st5 (by rw [e4, e]; exact hF)
    rw [st6 (by rw [e5, e4, e]; exact hF), e5, e4, e]
  rcases hQ with ⟨F, q1, q2, q3⟩ | ⟨q1, q2, q3, q4, q5, q6⟩
  · rw [q3]
    have e3 := st3 (by rw [q1]; exact q2)
    exact jk_rs_bad (by rw [ef]; exact all3 F (by rw [e3, q1]) q2) q2
  · rw [q4] at q5 q6
    rcases h3 with ⟨hE3, ⟨c1, c2, c3⟩ | ⟨c1, c2⟩⟩
    · rw [q2] at c1 c3
      have z3 : σ3 34 2 = 0 := by rw [c2]; exact q1
      have e30 : σ3 34 0 = s 0 1 + 2 := by omega
      obtain ⟨n1, n2⟩ := h4.2 z3
      rw [e30] at n1 n2
      have hb5 := h4.1.1.2.2.2.2.1
      by_cases hN : (jk_n2 b m (s 0 1 + 2)).1 = 0
      · obtain ⟨n3, n4⟩ := n2 hN
        have z4 : σ4 34 2 = 0 := by rw [n1]; exact hN
        obtain ⟨hE5, r2, r3⟩ := h5
        rw [n4] at r2 r3
        rcases r3 with ⟨r3, r4⟩ | ⟨r3, r4⟩
        · have hnu := jk_nu_3 r3
          have z5 : σ5 34 2 = 0 := by rw [r4]; exact z4
          rcases h6 with ⟨w1, h6⟩ | ⟨w1, h6, h62⟩
          · rw [jk_pbx_7 q3 q5 q6 c1 (by rw [hnu]; exact hN) (by rw [hnu, ← n3]; exact w1), hnu]
            have hc : ∀ c, c ≠ 34 → c ≠ 33 → σ6 c = σ c := fun c d1 d2 => by
              rw [h6, hE5.2.2 c d1, h4.1.2.2 c d1, hE3.2.2 c d1, jw_up_out _ _ _ d2, hE2.2.2 c d1]
            have hc1 : σ6 33 1 = jw_or (σ 33 1) (jw_shl 1 v) := by
              rw [h6, hE5.2.2 33 (by omega), h4.1.2.2 33 (by omega), hE3.2.2 33 (by omega), jw_up_eq]
            have hco : ∀ c, c ≠ o + 5 → ∀ j, jw_up σ6 (o + 5) v w c j = σ6 c j := fun c hc j => by rw [jw_up_out _ _ _ hc]
            have z6 : jw_up σ6 (o + 5) v w 34 2 = 0 := by rw [ef, h6]; exact z5
            refine ⟨z6, fun _ => ⟨z6, rfl, ?_, ?_, ?_, ?_, ?_, ?_, ?_, ?_, ?_⟩⟩
            · rw [ef, h6, r2]
              rfl
            · rw [hco o (by omega), hc o (by omega) (by omega)]
              exact g3
            · rw [hco o (by omega), hc o (by omega) (by omega)]
              exact g4
            · rw [hco o (by omega), hc o (by omega) (by omega)]
              exact g5
            · rw [hco 33 (by omega), hc1, g6, q4]
              rfl
            · intro j j0 j1
              rw [hco (o + 1) (by omega), hc (o + 1) (by omega) (by omega)]
              exact g7 j j0 j1
            · intro j j0 j1
              rw [hco (o + 2) (by omega), hc (o + 2) (by omega) (by omega)]
              exact g8 j j0 j1
            · intro j j0 j1
              rw [hco (o + 3) (by omega), hco (o + 4) (by omega), hc (o + 3) (by omega) (by omega), hc (o + 4) (by omega) (by omega)]
              exact g9 j j0 j1
            · intro j j0 j1
              show _ = if j = jk_h b m (s 0 1) - 120 then _ else _
              rw [← q4]
              by_cases hj : j = v
              · rw [if_pos hj, hj, jw_up_eq]
                exact n3
              · rw [if_neg hj, jw_up_ne _ (by omega), hc (o + 5) (by omega) (by omega)]
                exact g10 j j0 j1
          · rw [jk_pbx_6 q3 q5 q6 c1 (by rw [hnu]; exact hN) (by rw [hnu, ← n3]; exact w1)]
            exact jk_rs_bad (by rw [ef, h62 z5, e30]) (by omega)
        · have hnu := jk_nu_2 hN r3
          have e5 := r4 z4
          have hb4 := hE5.1.2.2.2.2.1
          rw [jk_pbx_5 q3 q5 q6 c1 (by rw [hnu]; show -1000 * 2 - _ ≠ 0; omega), hnu]
          exact jk_rs_bad (by rw [ef, st6 (by omega), e5]) (by show -1000 * 2 - _ ≠ 0; omega)
      · have e4 : σ4 34 2 ≠ 0 := by rw [n1]; exact hN
        rw [jk_pbx_5 q3 q5 q6 c1 (by rw [jk_nu_1 hN]; exact hN), jk_nu_1 hN]
        have e5 := st5 e4
        exact jk_rs_bad (by rw [ef, st6 (by rw [e5]; exact e4), e5, n1]) hN
    · rw [q2] at c1 c2
      rw [jk_pbx_4 q3 q5 q6 c1]
      exact jk_rs_bad (by rw [ef]; exact all3 _ (c2 q1) (by omega)) (by omega)
theorem jk_readBox {n : Nat} {σ : jw_H} {o : Nat} {b : Int → Int} {m : Int} {s : jw_H} (hX : jk_X n o b m σ) (hrl : jk_rl o σ s)  : jw_T (js_S n) 3 85 [.inr (.inr 33)] σ (fun r σ' => r = none ∧ jk_X n o b m σ' ∧ jk_D o σ σ' ∧ jk_rs o σ' (jk_pbx b m s (s 0 1))) := by
  refine jw_T_of (D := 2) (M := mm_85) rfl (Nat.le_of_ble_eq_true rfl) (ls0 := [some (.inr (.inr 33)), none, none, none, none]) rfl ?_ (by rintro _ _ ⟨rfl, -⟩; rfl)
  have hto := hX.2.1
  have hpo := hX.1
  have hp0 := hpo.1
  have hob : 15 ≤ o ∧ o ≤ 27 := by omega
  have h4 := hX.2.2.2.2.1
  have h5 := hX.2.2.2.2.2.1
  have hb0 := hX.2.2.2.2.2.2.2.2.2.2.1
  have hh0 := jk_X_h hX h4.1
  refine jw_W_n 1 (i' := 1) (ls' := [some (.inr (.inr 33)), none, none, none, none]) (st' := [.inr (.inr 33)]) rfl ?_
  refine jw_W_gf rfl rfl rfl ?_
  show jw_W (js_S n) _ md_85 2 [some (.inr (.inr 33)), none, none, none, none] [.inr (.inr 34)] σ _
  refine jw_W_gf rfl rfl rfl ?_
  show jw_W (js_S n) _ md_85 3 [some (.inr (.inr 33)), none, none, none, none] [.inl (σ 34 0)] σ _
  refine jw_W_n 2 (i' := 5) (ls' := [some (.inr (.inr 33)), some (.inl (σ 34 0)), none, none, none]) (st' := [.inr (.inr 33)]) rfl ?_
  refine jw_W_call (as := [.inr (.inr 33)]) (rest := []) rfl rfl rfl rfl (Nat.le_of_ble_eq_true rfl) (.inr rfl) (jk_readQX hX) (by omega) ?_ rfl
  rintro r1 σz (⟨v, rfl, hv, hl, hE1, h12⟩ | ⟨v, rfl, hv, hl, hq, hE1, h12⟩ | ⟨v, rfl, hv, hl, hq, hE1, h12, h10⟩)
  · rename jw_H => σq
    have hX1 := hE1.1
    have e331 : σq 33 1 = σ 33 1 := by rw [hE1.2.2 33 (by omega)]
    have hv3 : 0 ≤ v ∧ v < 3 := by omega
    have hbx := jk_box8 (x := σq 33 1) (by omega) hv3
    have hQ : jk_bq b m s (s 0 1) v σq := .inl ⟨_, h12 hrl.1, by omega, by rw [hrl.2.2.1]; exact jk_pbx_1 (by rw [← hrl.2.2.1]; exact hl)⟩
    show jw_W (js_S n) _ md_85 6 [some (.inr (.inr 33)), some (.inl (σ 34 0)), none, none, none] [.inl v] σq _
    refine jw_W_n 2 (i' := 8) (ls' := [some (.inr (.inr 33)), some (.inl (σ 34 0)), some (.inl v), none, none]) (st' := [.inr (.inr 33)]) rfl ?_
    refine jw_W_gf rfl rfl rfl ?_
    show jw_W (js_S n) _ md_85 9 [some (.inr (.inr 33)), some (.inl (σ 34 0)), some (.inl v), none, none] [.inl (σq 33 1)] σq _
    refine jw_W_n 4 (i' := 13) (ls' := [some (.inr (.inr 33)), some (.inl (σ 34 0)), some (.inl v), none, none]) (st' := [.inl (jw_and (σq 33 1) (jw_shl 1 v))]) rfl ?_
    refine jw_W_if rfl (by unfold jw_rg; omega) (fun hc1 => ?_) (fun hc1 => ?_)
    · have hc1 : (jw_and (σq 33 1) (jw_shl 1 v)) = 0 := hc1
      have hE2 := hE1
      have hX2 := hX1
      have e332 := e331
      have hQ2 := hQ
      refine jw_W_n 2 (i' := 21) (ls' := [some (.inr (.inr 33)), some (.inl (σ 34 0)), some (.inl v), none, none]) (st' := [.inr (.inr 33), .inr (.inr 33)]) rfl ?_
      refine jw_W_gf rfl rfl rfl ?_
      show jw_W (js_S n) _ md_85 22 [some (.inr (.inr 33)), some (.inl (σ 34 0)), some (.inl v), none, none] [.inl (σq 33 1), .inr (.inr 33)] σq _
      refine jw_W_n 4 (i' := 26) (ls' := [some (.inr (.inr 33)), some (.inl (σ 34 0)), some (.inl v), none, none]) (st' := [.inl (jw_or (σq 33 1) (jw_shl 1 v)), .inr (.inr 33)]) rfl ?_
      refine jw_W_pf (a := jw_or (σq 33 1) (jw_shl 1 v)) rfl (by omega) rfl rfl rfl rfl rfl ?_
      show jw_W (js_S n) _ _ _ _ _ (jw_up σq 33 1 (jw_or (σq 33 1) (jw_shl 1 v))) _
      rw [e332]
      have k3 := jk_XD_b hX2 (v := jw_or (σ 33 1) (jw_shl 1 v)) (by rw [← e331]; exact hbx.1)
      refine jw_W_n 1 (i' := 28) (ls' := [some (.inr (.inr 33)), some (.inl (σ 34 0)), some (.inl v), none, none]) (st' := [.inr (.inr 33)]) rfl ?_
      refine jw_W_gf rfl rfl rfl ?_
      show jw_W (js_S n) _ md_85 29 [some (.inr (.inr 33)), some (.inl (σ 34 0)), some (.inl v), none, none] [.inr (.inr 34)] ((jw_up σq 33 1 (jw_or (σ 33 1) (jw_shl 1 v)))) _
      refine jw_W_n 1 (i' := 30) (ls' := [some (.inr (.inr 33)), some (.inl (σ 34 0)), some (.inl v), none, none]) (st' := [.inl 60, .inr (.inr 34)]) rfl ?_
      refine jw_W_call (as := [.inr (.inr 34), .inl 60]) (rest := []) rfl rfl rfl rfl (Nat.le_of_ble_eq_true rfl) (.inr rfl) (jk_expectX k3.1 (x := 60) (by omega)) (by omega) ?_ rfl
      rintro r1 σ3 ⟨rfl, hE3, h32⟩
      rename jw_H => σ3
      have hX3 := hE3.1
      have ha3 := hX3.2.2.2.2.1
      rw [jw_up_out _ _ _ (show 34 ≠ 33 by omega)] at h32
      show jw_W (js_S n) _ md_85 31 [some (.inr (.inr 33)), some (.inl (σ 34 0)), some (.inl v), none, none] [] σ3 _
      refine jw_W_n 1 (i' := 32) (ls' := [some (.inr (.inr 33)), some (.inl (σ 34 0)), some (.inl v), none, none]) (st' := [.inr (.inr 33)]) rfl ?_
      refine jw_W_gf rfl rfl rfl ?_
      show jw_W (js_S n) _ md_85 33 [some (.inr (.inr 33)), some (.inl (σ 34 0)), some (.inl v), none, none] [.inr (.inr 34)] σ3 _
      refine jw_W_gf rfl rfl rfl ?_
      show jw_W (js_S n) _ md_85 34 [some (.inr (.inr 33)), some (.inl (σ 34 0)), some (.inl v), none, none] [.inl (σ3 34 0)] σ3 _
      refine jw_W_n 2 (i' := 36) (ls' := [some (.inr (.inr 33)), some (.inl (σ 34 0)), some (.inl v), some (.inl (σ3 34 0)), none]) (st' := [.inr (.inr 33)]) rfl ?_
      refine jw_W_gf rfl rfl rfl ?_
      show jw_W (js_S n) _ md_85 37 [some (.inr (.inr 33)), some (.inl (σ 34 0)), some (.inl v), some (.inl (σ3 34 0)), none] [.inr (.inr 34)] σ3 _
      refine jw_W_n 1 (i' := 38) (ls' := [some (.inr (.inr 33)), some (.inl (σ 34 0)), some (.inl v), some (.inl (σ3 34 0)), none]) (st' := [.inl 2, .inr (.inr 34)]) rfl ?_
      refine jw_W_call (as := [.inr (.inr 34), .inl 2]) (rest := []) rfl rfl rfl rfl (Nat.le_of_ble_eq_true rfl) (.inr rfl) (jk_numberX hX3) (by omega) ?_ rfl
      rintro r1 σ4 ⟨w, rfl, hw, hE4, h42⟩
      rename jw_H => σ4
      have hX4 := hE4.1
      show jw_W (js_S n) _ md_85 39 [some (.inr (.inr 33)), some (.inl (σ 34 0)), some (.inl v), some (.inl (σ3 34 0)), none] [.inl w] σ4 _
      refine jw_W_n 2 (i' := 41) (ls' := [some (.inr (.inr 33)), some (.inl (σ 34 0)), some (.inl v), some (.inl (σ3 34 0)), some (.inl w)]) (st' := [.inr (.inr 33)]) rfl ?_
      refine jw_W_gf rfl rfl rfl ?_
      show jw_W (js_S n) _ md_85 42 [some (.inr (.inr 33)), some (.inl (σ 34 0)), some (.inl v), some (.inl (σ3 34 0)), some (.inl w)] [.inr (.inr 34)] σ4 _
      refine jw_W_call (as := [.inr (.inr 34)]) (rest := []) rfl rfl rfl rfl (Nat.le_of_ble_eq_true rfl) (.inr rfl) (jk_refuseX hX4) (by omega) ?_ rfl
      rintro r1 σ5 ⟨rfl, hE5, h50, h52⟩
      rename jw_H => σ5
      have hX5 := hE5.1
      have hto6 := hX5.2.1
      have hD5 := jk_D_tr (jk_D_tr hE2.2.1 k3.2) (jk_D_tr hE3.2.1 (jk_D_tr hE4.2.1 hE5.2.1))
      show jw_W (js_S n) _ md_85 43 [some (.inr (.inr 33)), some (.inl (σ 34 0)), some (.inl v), some (.inl (σ3 34 0)), some (.inl w)] [] σ5 _
      refine jw_W_n 2 (i' := 45) (ls' := [some (.inr (.inr 33)), some (.inl (σ 34 0)), some (.inl v), some (.inl (σ3 34 0)), some (.inl w)]) (st' := [.inl 1, .inl w]) rfl ?_
      refine jw_W_ic rfl (by unfold jw_rg; omega) (by unfold jw_rg; omega) (fun hc2 => ?_) (fun hc2 => ?_)
      · have hc2 : w < 1 := hc2
        refine jw_W_n 1 (i' := 50) (ls' := [some (.inr (.inr 33)), some (.inl (σ 34 0)), some (.inl v), some (.inl (σ3 34 0)), some (.inl w)]) (st' := [.inr (.inr 33)]) rfl ?_
        refine jw_W_gf rfl rfl rfl ?_
        show jw_W (js_S n) _ md_85 51 [some (.inr (.inr 33)), some (.inl (σ 34 0)), some (.inl v), some (.inl (σ3 34 0)), some (.inl w)] [.inr (.inr 34)] σ5 _
        refine jw_W_n 2 (i' := 53) (ls' := [some (.inr (.inr 33)), some (.inl (σ 34 0)), some (.inl v), some (.inl (σ3 34 0)), some (.inl w)]) (st' := [.inl (σ3 34 0), .inl 3, .inr (.inr 34)]) rfl ?_
        refine jw_W_call (as := [.inr (.inr 34), .inl 3, .inl (σ3 34 0)]) (rest := []) rfl rfl rfl rfl (Nat.le_of_ble_eq_true rfl) (.inr rfl) (jk_failX hX5 (by omega) (by omega)) (by omega) ?_ rfl
        rintro r1 σ6 ⟨rfl, hE6, h60, h62⟩
        rename jw_H => σ6
        have hto6 := hE6.1.2.1
        show jw_W (js_S n) _ md_85 54 [some (.inr (.inr 33)), some (.inl (σ 34 0)), some (.inl v), some (.inl (σ3 34 0)), some (.inl w)] [] σ6 _
        refine jw_W_n 1 (i' := 55) (ls' := [some (.inr (.inr 33)), some (.inl (σ 34 0)), some (.inl v), some (.inl (σ3 34 0)), some (.inl w)]) (st' := [.inr (.inr 33)]) rfl ?_
        refine jw_W_gf rfl rfl rfl ?_
        show jw_W (js_S n) _ md_85 56 [some (.inr (.inr 33)), some (.inl (σ 34 0)), some (.inl v), some (.inl (σ3 34 0)), some (.inl w)] [.inr (.inr ((σ6 33 2).toNat))] σ6 _
        rw [(show (σ6 33 2).toNat = o from hto6)]
        refine jw_W_gf rfl hpo.2.1 rfl ?_
        show jw_W (js_S n) _ md_85 57 [some (.inr (.inr 33)), some (.inl (σ 34 0)), some (.inl v), some (.inl (σ3 34 0)), some (.inl w)] [.inr (.inr (o + 5))] σ6 _
        refine jw_W_n 2 (i' := 59) (ls' := [some (.inr (.inr 33)), some (.inl (σ 34 0)), some (.inl v), some (.inl (σ3 34 0)), some (.inl w)]) (st' := [.inl w, .inl v, .inr (.inr (o + 5))]) rfl ?_
        refine jw_W_is rfl (by omega) hpo.2.2.2.2.2.2 (by omega) (by omega) (by omega) ?_
        refine jw_W_re rfl ?_
        have k6 := jk_XD_row hE6.1 (w := o + 5) (by omega) v w
        exact ⟨rfl, k6.1, jk_D_tr hD5 (jk_D_tr hE6.2.1 k6.2), jk_box_end hX hrl hE2 hQ2 hv3 ⟨hE3, h32⟩ ⟨hE4, h42⟩ ⟨hE5, h50, h52⟩ (.inr ⟨by omega, hE6, h62⟩)⟩
      · have hc2 : ¬ (w < 1) := hc2
        refine jw_W_n 2 (i' := 48) (ls' := [some (.inr (.inr 33)), some (.inl (σ 34 0)), some (.inl v), some (.inl (σ3 34 0)), some (.inl w)]) (st' := [.inl 9, .inl w]) rfl ?_
        refine jw_W_ic rfl (by unfold jw_rg; omega) (by unfold jw_rg; omega) (fun hc3 => ?_) (fun hc3 => ?_)
        · have hc3 : w ≤ 9 := hc3
          refine jw_W_n 1 (i' := 55) (ls' := [some (.inr (.inr 33)), some (.inl (σ 34 0)), some (.inl v), some (.inl (σ3 34 0)), some (.inl w)]) (st' := [.inr (.inr 33)]) rfl ?_
          refine jw_W_gf rfl rfl rfl ?_
          show jw_W (js_S n) _ md_85 56 [some (.inr (.inr 33)), some (.inl (σ 34 0)), some (.inl v), some (.inl (σ3 34 0)), some (.inl w)] [.inr (.inr ((σ5 33 2).toNat))] σ5 _
          rw [(show (σ5 33 2).toNat = o from hto6)]
          refine jw_W_gf rfl hpo.2.1 rfl ?_
          show jw_W (js_S n) _ md_85 57 [some (.inr (.inr 33)), some (.inl (σ 34 0)), some (.inl v), some (.inl (σ3 34 0)), some (.inl w)] [.inr (.inr (o + 5))] σ5 _
          refine jw_W_n 2 (i' := 59) (ls' := [some (.inr (.inr 33)), some (.inl (σ 34 0)), some (.inl v), some (.inl (σ3 34 0)), some (.inl w)]) (st' := [.inl w, .inl v, .inr (.inr (o + 5))]) rfl ?_
          refine jw_W_is rfl (by omega) hpo.2.2.2.2.2.2 (by omega) (by omega) (by omega) ?_
          refine jw_W_re rfl ?_
          have k6 := jk_XD_row hX5 (w := o + 5) (by omega) v w
          exact ⟨rfl, k6.1, jk_D_tr hD5 k6.2, jk_box_end hX hrl hE2 hQ2 hv3 ⟨hE3, h32⟩ ⟨hE4, h42⟩ ⟨hE5, h50, h52⟩ (.inl ⟨by omega, rfl⟩)⟩
        · have hc3 : ¬ (w ≤ 9) := hc3
          refine jw_W_n 1 (i' := 50) (ls' := [some (.inr (.inr 33)), some (.inl (σ 34 0)), some (.inl v), some (.inl (σ3 34 0)), some (.inl w)]) (st' := [.inr (.inr 33)]) rfl ?_
          refine jw_W_gf rfl rfl rfl ?_
          show jw_W (js_S n) _ md_85 51 [some (.inr (.inr 33)), some (.inl (σ 34 0)), some (.inl v), some (.inl (σ3 34 0)), some (.inl w)] [.inr (.inr 34)] σ5 _
          refine jw_W_n 2 (i' := 53) (ls' := [some (.inr (.inr 33)), some (.inl (σ 34 0)), some (.inl v), some (.inl (σ3 34 0)), some (.inl w)]) (st' := [.inl (σ3 34 0), .inl 3, .inr (.inr 34)]) rfl ?_
          refine jw_W_call (as := [.inr (.inr 34), .inl 3, .inl (σ3 34 0)]) (rest := []) rfl rfl rfl rfl (Nat.le_of_ble_eq_true rfl) (.inr rfl) (jk_failX hX5 (by omega) (by omega)) (by omega) ?_ rfl
          rintro r1 σ6 ⟨rfl, hE6, h60, h62⟩
          rename jw_H => σ6
          have hto6 := hE6.1.2.1
          show jw_W (js_S n) _ md_85 54 [some (.inr (.inr 33)), some (.inl (σ 34 0)), some (.inl v), some (.inl (σ3 34 0)), some (.inl w)] [] σ6 _
          refine jw_W_n 1 (i' := 55) (ls' := [some (.inr (.inr 33)), some (.inl (σ 34 0)), some (.inl v), some (.inl (σ3 34 0)), some (.inl w)]) (st' := [.inr (.inr 33)]) rfl ?_
          refine jw_W_gf rfl rfl rfl ?_
          show jw_W (js_S n) _ md_85 56 [some (.inr (.inr 33)), some (.inl (σ 34 0)), some (.inl v), some (.inl (σ3 34 0)), some (.inl w)] [.inr (.inr ((σ6 33 2).toNat))] σ6 _
          rw [(show (σ6 33 2).toNat = o from hto6)]
          refine jw_W_gf rfl hpo.2.1 rfl ?_
          show jw_W (js_S n) _ md_85 57 [some (.inr (.inr 33)), some (.inl (σ 34 0)), some (.inl v), some (.inl (σ3 34 0)), some (.inl w)] [.inr (.inr (o + 5))] σ6 _
          refine jw_W_n 2 (i' := 59) (ls' := [some (.inr (.inr 33)), some (.inl (σ 34 0)), some (.inl v), some (.inl (σ3 34 0)), some (.inl w)]) (st' := [.inl w, .inl v, .inr (.inr (o + 5))]) rfl ?_
          refine jw_W_is rfl (by omega) hpo.2.2.2.2.2.2 (by omega) (by omega) (by omega) ?_
          refine jw_W_re rfl ?_
          have k6 := jk_XD_row hE6.1 (w := o + 5) (by omega) v w
          exact ⟨rfl, k6.1, jk_D_tr hD5 (jk_D_tr hE6.2.1 k6.2), jk_box_end hX hrl hE2 hQ2 hv3 ⟨hE3, h32⟩ ⟨hE4, h42⟩ ⟨hE5, h50, h52⟩ (.inr ⟨by omega, hE6, h62⟩)⟩
    · have hc1 : ¬ ((jw_and (σq 33 1) (jw_shl 1 v)) = 0) := hc1
      refine jw_W_n 1 (i' := 15) (ls' := [some (.inr (.inr 33)), some (.inl (σ 34 0)), some (.inl v), none, none]) (st' := [.inr (.inr 33)]) rfl ?_
      refine jw_W_gf rfl rfl rfl ?_
      show jw_W (js_S n) _ md_85 16 [some (.inr (.inr 33)), some (.inl (σ 34 0)), some (.inl v), none, none] [.inr (.inr 34)] σq _
      refine jw_W_n 2 (i' := 18) (ls' := [some (.inr (.inr 33)), some (.inl (σ 34 0)), some (.inl v), none, none]) (st' := [.inl (σ 34 0), .inl 6, .inr (.inr 34)]) rfl ?_
      refine jw_W_call (as := [.inr (.inr 34), .inl 6, .inl (σ 34 0)]) (rest := []) rfl rfl rfl rfl (Nat.le_of_ble_eq_true rfl) (.inr rfl) (jk_failX hX1 (by omega) (by omega)) (by omega) ?_ rfl
      rintro r1 σz ⟨rfl, hEf, hf0, hf2⟩
      rename jw_H => σqf
      have hE2 := jk_E_tr hE1 hEf
      have hX2 := hE2.1
      have e332 : σqf 33 1 = σ 33 1 := by rw [hE2.2.2 33 (by omega)]
      have hQ2 : jk_bq b m s (s 0 1) v σqf := by
        rcases hQ with ⟨F, u1, u2, u3⟩ | hu
        · exact .inl ⟨F, by rw [hEf.2.1.2.2.1 (by rw [u1]; exact u2), u1], u2, u3⟩
        · exact absurd hu.1 (by rw [h12 hrl.1]; omega)
      show jw_W (js_S n) _ md_85 19 [some (.inr (.inr 33)), some (.inl (σ 34 0)), some (.inl v), none, none] [] σqf _
      refine jw_W_n 2 (i' := 21) (ls' := [some (.inr (.inr 33)), some (.inl (σ 34 0)), some (.inl v), none, none]) (st' := [.inr (.inr 33), .inr (.inr 33)]) rfl ?_
      refine jw_W_gf rfl rfl rfl ?_
      show jw_W (js_S n) _ md_85 22 [some (.inr (.inr 33)), some (.inl (σ 34 0)), some (.inl v), none, none] [.inl (σqf 33 1), .inr (.inr 33)] σqf _
      refine jw_W_n 4 (i' := 26) (ls' := [some (.inr (.inr 33)), some (.inl (σ 34 0)), some (.inl v), none, none]) (st' := [.inl (jw_or (σqf 33 1) (jw_shl 1 v)), .inr (.inr 33)]) rfl ?_
      refine jw_W_pf (a := jw_or (σqf 33 1) (jw_shl 1 v)) rfl (by omega) rfl rfl rfl rfl rfl ?_
      show jw_W (js_S n) _ _ _ _ _ (jw_up σqf 33 1 (jw_or (σqf 33 1) (jw_shl 1 v))) _
      rw [e332]
      have k3 := jk_XD_b hX2 (v := jw_or (σ 33 1) (jw_shl 1 v)) (by rw [← e331]; exact hbx.1)
      refine jw_W_n 1 (i' := 28) (ls' := [some (.inr (.inr 33)), some (.inl (σ 34 0)), some (.inl v), none, none]) (st' := [.inr (.inr 33)]) rfl ?_
      refine jw_W_gf rfl rfl rfl ?_
      show jw_W (js_S n) _ md_85 29 [some (.inr (.inr 33)), some (.inl (σ 34 0)), some (.inl v), none, none] [.inr (.inr 34)] ((jw_up σqf 33 1 (jw_or (σ 33 1) (jw_shl 1 v)))) _
      refine jw_W_n 1 (i' := 30) (ls' := [some (.inr (.inr 33)), some (.inl (σ 34 0)), some (.inl v), none, none]) (st' := [.inl 60, .inr (.inr 34)]) rfl ?_
      refine jw_W_call (as := [.inr (.inr 34), .inl 60]) (rest := []) rfl rfl rfl rfl (Nat.le_of_ble_eq_true rfl) (.inr rfl) (jk_expectX k3.1 (x := 60) (by omega)) (by omega) ?_ rfl
      rintro r1 σ3 ⟨rfl, hE3, h32⟩
      rename jw_H => σ3
      have hX3 := hE3.1
      have ha3 := hX3.2.2.2.2.1
      rw [jw_up_out _ _ _ (show 34 ≠ 33 by omega)] at h32
      show jw_W (js_S n) _ md_85 31 [some (.inr (.inr 33)), some (.inl (σ 34 0)), some (.inl v), none, none] [] σ3 _
      refine jw_W_n 1 (i' := 32) (ls' := [some (.inr (.inr 33)), some (.inl (σ 34 0)), some (.inl v), none, none]) (st' := [.inr (.inr 33)]) rfl ?_
      refine jw_W_gf rfl rfl rfl ?_
      show jw_W (js_S n) _ md_85 33 [some (.inr (.inr 33)), some (.inl (σ 34 0)), some (.inl v), none, none] [.inr (.inr 34)] σ3 _
      refine jw_W_gf rfl rfl rfl ?_
      show jw_W (js_S n) _ md_85 34 [some (.inr (.inr 33)), some (.inl (σ 34 0)), some (.inl v), none, none] [.inl (σ3 34 0)] σ3 _
      refine jw_W_n 2 (i' := 36) (ls' := [some (.inr (.inr 33)), some (.inl (σ 34 0)), some (.inl v), some (.inl (σ3 34 0)), none]) (st' := [.inr (.inr 33)]) rfl ?_
      refine jw_W_gf rfl rfl rfl ?_
      show jw_W (js_S n) _ md_85 37 [some (.inr (.inr 33)), some (.inl (σ 34 0)), some (.inl v), some (.inl (σ3 34 0)), none] [.inr (.inr 34)] σ3 _
      refine jw_W_n 1 (i' := 38) (ls' := [some (.inr (.inr 33)), some (.inl (σ 34 0)), some (.inl v), some (.inl (σ3 34 0)), none]) (st' := [.inl 2, .inr (.inr 34)]) rfl ?_
      refine jw_W_call (as := [.inr (.inr 34), .inl 2]) (rest := []) rfl rfl rfl rfl (Nat.le_of_ble_eq_true rfl) (.inr rfl) (jk_numberX hX3) (by omega) ?_ rfl
      rintro r1 σ4 ⟨w, rfl, hw, hE4, h42⟩
      rename jw_H => σ4
      have hX4 := hE4.1
      show jw_W (js_S n) _ md_85 39 [some (.inr (.inr 33)), some (.inl (σ 34 0)), some (.inl v), some (.inl (σ3 34 0)), none] [.inl w] σ4 _
      refine jw_W_n 2 (i' := 41) (ls' := [some (.inr (.inr 33)), some (.inl (σ 34 0)), some (.inl v), some (.inl (σ3 34 0)), some (.inl w)]) (st' := [.inr (.inr 33)]) rfl ?_
      refine jw_W_gf rfl rfl rfl ?_
      show jw_W (js_S n) _ md_85 42 [some (.inr (.inr 33)), some (.inl (σ 34 0)), some (.inl v), some (.inl (σ3 34 0)), some (.inl w)] [.inr (.inr 34)] σ4 _
      refine jw_W_call (as := [.inr (.inr 34)]) (rest := []) rfl rfl rfl rfl (Nat.le_of_ble_eq_true rfl) (.inr rfl) (jk_refuseX hX4) (by omega) ?_ rfl
      rintro r1 σ5 ⟨rfl, hE5, h50, h52⟩
      rename jw_H => σ5
      have hX5 := hE5.1
      have hto6 := hX5.2.1
      have hD5 := jk_D_tr (jk_D_tr hE2.2.1 k3.2) (jk_D_tr hE3.2.1 (jk_D_tr hE4.2.1 hE5.2.1))
      show jw_W (js_S n) _ md_85 43 [some (.inr (.inr 33)), some (.inl (σ 34 0)), some (.inl v), some (.inl (σ3 34 0)), some (.inl w)] [] σ5 _
      refine jw_W_n 2 (i' := 45) (ls' := [some (.inr (.inr 33)), some (.inl (σ 34 0)), some (.inl v), some (.inl (σ3 34 0)), some (.inl w)]) (st' := [.inl 1, .inl w]) rfl ?_
      refine jw_W_ic rfl (by unfold jw_rg; omega) (by unfold jw_rg; omega) (fun hc4 => ?_) (fun hc4 => ?_)
      · have hc4 : w < 1 := hc4
        refine jw_W_n 1 (i' := 50) (ls' := [some (.inr (.inr 33)), some (.inl (σ 34 0)), some (.inl v), some (.inl (σ3 34 0)), some (.inl w)]) (st' := [.inr (.inr 33)]) rfl ?_
        refine jw_W_gf rfl rfl rfl ?_
        show jw_W (js_S n) _ md_85 51 [some (.inr (.inr 33)), some (.inl (σ 34 0)), some (.inl v), some (.inl (σ3 34 0)), some (.inl w)] [.inr (.inr 34)] σ5 _
        refine jw_W_n 2 (i' := 53) (ls' := [some (.inr (.inr 33)), some (.inl (σ 34 0)), some (.inl v), some (.inl (σ3 34 0)), some (.inl w)]) (st' := [.inl (σ3 34 0), .inl 3, .inr (.inr 34)]) rfl ?_
        refine jw_W_call (as := [.inr (.inr 34), .inl 3, .inl (σ3 34 0)]) (rest := []) rfl rfl rfl rfl (Nat.le_of_ble_eq_true rfl) (.inr rfl) (jk_failX hX5 (by omega) (by omega)) (by omega) ?_ rfl
        rintro r1 σ6 ⟨rfl, hE6, h60, h62⟩
        rename jw_H => σ6
        have hto6 := hE6.1.2.1
        show jw_W (js_S n) _ md_85 54 [some (.inr (.inr 33)), some (.inl (σ 34 0)), some (.inl v), some (.inl (σ3 34 0)), some (.inl w)] [] σ6 _
        refine jw_W_n 1 (i' := 55) (ls' := [some (.inr (.inr 33)), some (.inl (σ 34 0)), some (.inl v), some (.inl (σ3 34 0)), some (.inl w)]) (st' := [.inr (.inr 33)]) rfl ?_
        refine jw_W_gf rfl rfl rfl ?_
        show jw_W (js_S n) _ md_85 56 [some (.inr (.inr 33)), some (.inl (σ 34 0)), some (.inl v), some (.inl (σ3 34 0)), some (.inl w)] [.inr (.inr ((σ6 33 2).toNat))] σ6 _
        rw [(show (σ6 33 2).toNat = o from hto6)]
        refine jw_W_gf rfl hpo.2.1 rfl ?_
        show jw_W (js_S n) _ md_85 57 [some (.inr (.inr 33)), some (.inl (σ 34 0)), some (.inl v), some (.inl (σ3 34 0)), some (.inl w)] [.inr (.inr (o + 5))] σ6 _
        refine jw_W_n 2 (i' := 59) (ls' := [some (.inr (.inr 33)), some (.inl (σ 34 0)), some (.inl v), some (.inl (σ3 34 0)), some (.inl w)]) (st' := [.inl w, .inl v, .inr (.inr (o + 5))]) rfl ?_
        refine jw_W_is rfl (by omega) hpo.2.2.2.2.2.2 (by omega) (by omega) (by omega) ?_
        refine jw_W_re rfl ?_
        have k6 := jk_XD_row hE6.1 (w := o + 5) (by omega) v w
        exact ⟨rfl, k6.1, jk_D_tr hD5 (jk_D_tr hE6.2.1 k6.2), jk_box_end hX hrl hE2 hQ2 hv3 ⟨hE3, h32⟩ ⟨hE4, h42⟩ ⟨hE5, h50, h52⟩ (.inr ⟨by omega, hE6, h62⟩)⟩
      · have hc4 : ¬ (w < 1) := hc4
        refine jw_W_n 2 (i' := 48) (ls' := [some (.inr (.inr 33)), some (.inl (σ 34 0)), some (.inl v), some (.inl (σ3 34 0)), some (.inl w)]) (st' := [.inl 9, .inl w]) rfl ?_
        refine jw_W_ic rfl (by unfold jw_rg; omega) (by unfold jw_rg; omega) (fun hc5 => ?_) (fun hc5 => ?_)
        · have hc5 : w ≤ 9 := hc5
          refine jw_W_n 1 (i' := 55) (ls' := [some (.inr (.inr 33)), some (.inl (σ 34 0)), some (.inl v), some (.inl (σ3 34 0)), some (.inl w)]) (st' := [.inr (.inr 33)]) rfl ?_
          refine jw_W_gf rfl rfl rfl ?_
          show jw_W (js_S n) _ md_85 56 [some (.inr (.inr 33)), some (.inl (σ 34 0)), some (.inl v), some (.inl (σ3 34 0)), some (.inl w)] [.inr (.inr ((σ5 33 2).toNat))] σ5 _
          rw [(show (σ5 33 2).toNat = o from hto6)]
          refine jw_W_gf rfl hpo.2.1 rfl ?_
          show jw_W (js_S n) _ md_85 57 [some (.inr (.inr 33)), some (.inl (σ 34 0)), some (.inl v), some (.inl (σ3 34 0)), some (.inl w)] [.inr (.inr (o + 5))] σ5 _
          refine jw_W_n 2 (i' := 59) (ls' := [some (.inr (.inr 33)), some (.inl (σ 34 0)), some (.inl v), some (.inl (σ3 34 0)), some (.inl w)]) (st' := [.inl w, .inl v, .inr (.inr (o + 5))]) rfl ?_
          refine jw_W_is rfl (by omega) hpo.2.2.2.2.2.2 (by omega) (by omega) (by omega) ?_
          refine jw_W_re rfl ?_
          have k6 := jk_XD_row hX5 (w := o + 5) (by omega) v w
          exact ⟨rfl, k6.1, jk_D_tr hD5 k6.2, jk_box_end hX hrl hE2 hQ2 hv3 ⟨hE3, h32⟩ ⟨hE4, h42⟩ ⟨hE5, h50, h52⟩ (.inl ⟨by omega, rfl⟩)⟩
        · have hc5 : ¬ (w ≤ 9) := hc5
          refine jw_W_n 1 (i' := 50) (ls' := [some (.inr (.inr 33)), some (.inl (σ 34 0)), some (.inl v), some (.inl (σ3 34 0)), some (.inl w)]) (st' := [.inr (.inr 33)]) rfl ?_
          refine jw_W_gf rfl rfl rfl ?_
          show jw_W (js_S n) _ md_85 51 [some (.inr (.inr 33)), some (.inl (σ 34 0)), some (.inl v), some (.inl (σ3 34 0)), some (.inl w)] [.inr (.inr 34)] σ5 _
          refine jw_W_n 2 (i' := 53) (ls' := [some (.inr (.inr 33)), some (.inl (σ 34 0)), some (.inl v), some (.inl (σ3 34 0)), some (.inl w)]) (st' := [.inl (σ3 34 0), .inl 3, .inr (.inr 34)]) rfl ?_
          refine jw_W_call (as := [.inr (.inr 34), .inl 3, .inl (σ3 34 0)]) (rest := []) rfl rfl rfl rfl (Nat.le_of_ble_eq_true rfl) (.inr rfl) (jk_failX hX5 (by omega) (by omega)) (by omega) ?_ rfl
          rintro r1 σ6 ⟨rfl, hE6, h60, h62⟩
          rename jw_H => σ6
          have hto6 := hE6.1.2.1
          show jw_W (js_S n) _ md_85 54 [some (.inr (.inr 33)), some (.inl (σ 34 0)), some (.inl v), some (.inl (σ3 34 0)), some (.inl w)] [] σ6 _
          refine jw_W_n 1 (i' := 55) (ls' := [some (.inr (.inr 33)), some (.inl (σ 34 0)), some (.inl v), some (.inl (σ3 34 0)), some (.inl w)]) (st' := [.inr (.inr 33)]) rfl ?_
          refine jw_W_gf rfl rfl rfl ?_
          show jw_W (js_S n) _ md_85 56 [some (.inr (.inr 33)), some (.inl (σ 34 0)), some (.inl v), some (.inl (σ3 34 0)), some (.inl w)] [.inr (.inr ((σ6 33 2).toNat))] σ6 _
          rw [(show (σ6 33 2).toNat = o from hto6)]
          refine jw_W_gf rfl hpo.2.1 rfl ?_
          show jw_W (js_S n) _ md_85 57 [some (.inr (.inr 33)), some (.inl (σ 34 0)), some (.inl v), some (.inl (σ3 34 0)), some (.inl w)] [.inr (.inr (o + 5))] σ6 _
          refine jw_W_n 2 (i' := 59) (ls' := [some (.inr (.inr 33)), some (.inl (σ 34 0)), some (.inl v), some (.inl (σ3 34 0)), some (.inl w)]) (st' := [.inl w, .inl v, .inr (.inr (o + 5))]) rfl ?_
          refine jw_W_is rfl (by omega) hpo.2.2.2.2.2.2 (by omega) (by omega) (by omega) ?_
          refine jw_W_re rfl ?_
          have k6 := jk_XD_row hE6.1 (w := o + 5) (by omega) v w
          exact ⟨rfl, k6.1, jk_D_tr hD5 (jk_D_tr hE6.2.1 k6.2), jk_box_end hX hrl hE2 hQ2 hv3 ⟨hE3, h32⟩ ⟨hE4, h42⟩ ⟨hE5, h50, h52⟩ (.inr ⟨by omega, hE6, h62⟩)⟩
  · rename jw_H => σp
    have hX1 := hE1.1
    have e331 : σp 33 1 = σ 33 1 := by rw [hE1.2.2 33 (by omega)]
    have hlu := hl
    unfold jk_let at hlu
    have hv3 : 0 ≤ v ∧ v < 3 := by omega
    have hbx := jk_box8 (x := σp 33 1) (by omega) hv3
    have hQ : jk_bq b m s (s 0 1) v σp := .inl ⟨_, h12 hrl.1, by omega, by rw [hrl.2.2.1]; exact jk_pbx_2 (by rw [← hrl.2.2.1]; exact hl) (by rw [← hrl.2.2.1, ← hrl.2.2.2.1]; omega)⟩
    show jw_W (js_S n) _ md_85 6 [some (.inr (.inr 33)), some (.inl (σ 34 0)), none, none, none] [.inl v] σp _
    refine jw_W_n 2 (i' := 8) (ls' := [some (.inr (.inr 33)), some (.inl (σ 34 0)), some (.inl v), none, none]) (st' := [.inr (.inr 33)]) rfl ?_
    refine jw_W_gf rfl rfl rfl ?_
    show jw_W (js_S n) _ md_85 9 [some (.inr (.inr 33)), some (.inl (σ 34 0)), some (.inl v), none, none] [.inl (σp 33 1)] σp _
    refine jw_W_n 4 (i' := 13) (ls' := [some (.inr (.inr 33)), some (.inl (σ 34 0)), some (.inl v), none, none]) (st' := [.inl (jw_and (σp 33 1) (jw_shl 1 v))]) rfl ?_
    refine jw_W_if rfl (by unfold jw_rg; omega) (fun hc6 => ?_) (fun hc6 => ?_)
    · have hc6 : (jw_and (σp 33 1) (jw_shl 1 v)) = 0 := hc6
      have hE2 := hE1
      have hX2 := hX1
      have e332 := e331
      have hQ2 := hQ
      refine jw_W_n 2 (i' := 21) (ls' := [some (.inr (.inr 33)), some (.inl (σ 34 0)), some (.inl v), none, none]) (st' := [.inr (.inr 33), .inr (.inr 33)]) rfl ?_
      refine jw_W_gf rfl rfl rfl ?_
      show jw_W (js_S n) _ md_85 22 [some (.inr (.inr 33)), some (.inl (σ 34 0)), some (.inl v), none, none] [.inl (σp 33 1), .inr (.inr 33)] σp _
      refine jw_W_n 4 (i' := 26) (ls' := [some (.inr (.inr 33)), some (.inl (σ 34 0)), some (.inl v), none, none]) (st' := [.inl (jw_or (σp 33 1) (jw_shl 1 v)), .inr (.inr 33)]) rfl ?_
      refine jw_W_pf (a := jw_or (σp 33 1) (jw_shl 1 v)) rfl (by omega) rfl rfl rfl rfl rfl ?_
      show jw_W (js_S n) _ _ _ _ _ (jw_up σp 33 1 (jw_or (σp 33 1) (jw_shl 1 v))) _
      rw [e332]
      have k3 := jk_XD_b hX2 (v := jw_or (σ 33 1) (jw_shl 1 v)) (by rw [← e331]; exact hbx.1)
      refine jw_W_n 1 (i' := 28) (ls' := [some (.inr (.inr 33)), some (.inl (σ 34 0)), some (.inl v), none, none]) (st' := [.inr (.inr 33)]) rfl ?_
      refine jw_W_gf rfl rfl rfl ?_
      show jw_W (js_S n) _ md_85 29 [some (.inr (.inr 33)), some (.inl (σ 34 0)), some (.inl v), none, none] [.inr (.inr 34)] ((jw_up σp 33 1 (jw_or (σ 33 1) (jw_shl 1 v)))) _
      refine jw_W_n 1 (i' := 30) (ls' := [some (.inr (.inr 33)), some (.inl (σ 34 0)), some (.inl v), none, none]) (st' := [.inl 60, .inr (.inr 34)]) rfl ?_
      refine jw_W_call (as := [.inr (.inr 34), .inl 60]) (rest := []) rfl rfl rfl rfl (Nat.le_of_ble_eq_true rfl) (.inr rfl) (jk_expectX k3.1 (x := 60) (by omega)) (by omega) ?_ rfl
      rintro r1 σ3 ⟨rfl, hE3, h32⟩
      rename jw_H => σ3
      have hX3 := hE3.1
      have ha3 := hX3.2.2.2.2.1
      rw [jw_up_out _ _ _ (show 34 ≠ 33 by omega)] at h32
      show jw_W (js_S n) _ md_85 31 [some (.inr (.inr 33)), some (.inl (σ 34 0)), some (.inl v), none, none] [] σ3 _
      refine jw_W_n 1 (i' := 32) (ls' := [some (.inr (.inr 33)), some (.inl (σ 34 0)), some (.inl v), none, none]) (st' := [.inr (.inr 33)]) rfl ?_
      refine jw_W_gf rfl rfl rfl ?_
      show jw_W (js_S n) _ md_85 33 [some (.inr (.inr 33)), some (.inl (σ 34 0)), some (.inl v), none, none] [.inr (.inr 34)] σ3 _
      refine jw_W_gf rfl rfl rfl ?_
      show jw_W (js_S n) _ md_85 34 [some (.inr (.inr 33)), some (.inl (σ 34 0)), some (.inl v), none, none] [.inl (σ3 34 0)] σ3 _
      refine jw_W_n 2 (i' := 36) (ls' := [some (.inr (.inr 33)), some (.inl (σ 34 0)), some (.inl v), some (.inl (σ3 34 0)), none]) (st' := [.inr (.inr 33)]) rfl ?_
      refine jw_W_gf rfl rfl rfl ?_
      show jw_W (js_S n) _ md_85 37 [some (.inr (.inr 33)), some (.inl (σ 34 0)), some (.inl v), some (.inl (σ3 34 0)), none] [.inr (.inr 34)] σ3 _
      refine jw_W_n 1 (i' := 38) (ls' := [some (.inr (.inr 33)), some (.inl (σ 34 0)), some (.inl v), some (.inl (σ3 34 0)), none]) (st' := [.inl 2, .inr (.inr 34)]) rfl ?_
      refine jw_W_call (as := [.inr (.inr 34), .inl 2]) (rest := []) rfl rfl rfl rfl (Nat.le_of_ble_eq_true rfl) (.inr rfl) (jk_numberX hX3) (by omega) ?_ rfl
      rintro r1 σ4 ⟨w, rfl, hw, hE4, h42⟩
      rename jw_H => σ4
      have hX4 := hE4.1
      show jw_W (js_S n) _ md_85 39 [some (.inr (.inr 33)), some (.inl (σ 34 0)), some (.inl v), some (.inl (σ3 34 0)), none] [.inl w] σ4 _
      refine jw_W_n 2 (i' := 41) (ls' := [some (.inr (.inr 33)), some (.inl (σ 34 0)), some (.inl v), some (.inl (σ3 34 0)), some (.inl w)]) (st' := [.inr (.inr 33)]) rfl ?_
      refine jw_W_gf rfl rfl rfl ?_
      show jw_W (js_S n) _ md_85 42 [some (.inr (.inr 33)), some (.inl (σ 34 0)), some (.inl v), some (.inl (σ3 34 0)), some (.inl w)] [.inr (.inr 34)] σ4 _
      refine jw_W_call (as := [.inr (.inr 34)]) (rest := []) rfl rfl rfl rfl (Nat.le_of_ble_eq_true rfl) (.inr rfl) (jk_refuseX hX4) (by omega) ?_ rfl
      rintro r1 σ5 ⟨rfl, hE5, h50, h52⟩
      rename jw_H => σ5
      have hX5 := hE5.1
      have hto6 := hX5.2.1
      have hD5 := jk_D_tr (jk_D_tr hE2.2.1 k3.2) (jk_D_tr hE3.2.1 (jk_D_tr hE4.2.1 hE5.2.1))
      show jw_W (js_S n) _ md_85 43 [some (.inr (.inr 33)), some (.inl (σ 34 0)), some (.inl v), some (.inl (σ3 34 0)), some (.inl w)] [] σ5 _
      refine jw_W_n 2 (i' := 45) (ls' := [some (.inr (.inr 33)), some (.inl (σ 34 0)), some (.inl v), some (.inl (σ3 34 0)), some (.inl w)]) (st' := [.inl 1, .inl w]) rfl ?_
      refine jw_W_ic rfl (by unfold jw_rg; omega) (by unfold jw_rg; omega) (fun hc7 => ?_) (fun hc7 => ?_)
      · have hc7 : w < 1 := hc7
        refine jw_W_n 1 (i' := 50) (ls' := [some (.inr (.inr 33)), some (.inl (σ 34 0)), some (.inl v), some (.inl (σ3 34 0)), some (.inl w)]) (st' := [.inr (.inr 33)]) rfl ?_
        refine jw_W_gf rfl rfl rfl ?_
        show jw_W (js_S n) _ md_85 51 [some (.inr (.inr 33)), some (.inl (σ 34 0)), some (.inl v), some (.inl (σ3 34 0)), some (.inl w)] [.inr (.inr 34)] σ5 _
        refine jw_W_n 2 (i' := 53) (ls' := [some (.inr (.inr 33)), some (.inl (σ 34 0)), some (.inl v), some (.inl (σ3 34 0)), some (.inl w)]) (st' := [.inl (σ3 34 0), .inl 3, .inr (.inr 34)]) rfl ?_
        refine jw_W_call (as := [.inr (.inr 34), .inl 3, .inl (σ3 34 0)]) (rest := []) rfl rfl rfl rfl (Nat.le_of_ble_eq_true rfl) (.inr rfl) (jk_failX hX5 (by omega) (by omega)) (by omega) ?_ rfl
        rintro r1 σ6 ⟨rfl, hE6, h60, h62⟩
        rename jw_H => σ6
        have hto6 := hE6.1.2.1
        show jw_W (js_S n) _ md_85 54 [some (.inr (.inr 33)), some (.inl (σ 34 0)), some (.inl v), some (.inl (σ3 34 0)), some (.inl w)] [] σ6 _
        refine jw_W_n 1 (i' := 55) (ls' := [some (.inr (.inr 33)), some (.inl (σ 34 0)), some (.inl v), some (.inl (σ3 34 0)), some (.inl w)]) (st' := [.inr (.inr 33)]) rfl ?_
        refine jw_W_gf rfl rfl rfl ?_
        show jw_W (js_S n) _ md_85 56 [some (.inr (.inr 33)), some (.inl (σ 34 0)), some (.inl v), some (.inl (σ3 34 0)), some (.inl w)] [.inr (.inr ((σ6 33 2).toNat))] σ6 _
        rw [(show (σ6 33 2).toNat = o from hto6)]
        refine jw_W_gf rfl hpo.2.1 rfl ?_
        show jw_W (js_S n) _ md_85 57 [some (.inr (.inr 33)), some (.inl (σ 34 0)), some (.inl v), some (.inl (σ3 34 0)), some (.inl w)] [.inr (.inr (o + 5))] σ6 _
        refine jw_W_n 2 (i' := 59) (ls' := [some (.inr (.inr 33)), some (.inl (σ 34 0)), some (.inl v), some (.inl (σ3 34 0)), some (.inl w)]) (st' := [.inl w, .inl v, .inr (.inr (o + 5))]) rfl ?_
        refine jw_W_is rfl (by omega) hpo.2.2.2.2.2.2 (by omega) (by omega) (by omega) ?_
        refine jw_W_re rfl ?_
        have k6 := jk_XD_row hE6.1 (w := o + 5) (by omega) v w
        exact ⟨rfl, k6.1, jk_D_tr hD5 (jk_D_tr hE6.2.1 k6.2), jk_box_end hX hrl hE2 hQ2 hv3 ⟨hE3, h32⟩ ⟨hE4, h42⟩ ⟨hE5, h50, h52⟩ (.inr ⟨by omega, hE6, h62⟩)⟩
      · have hc7 : ¬ (w < 1) := hc7
        refine jw_W_n 2 (i' := 48) (ls' := [some (.inr (.inr 33)), some (.inl (σ 34 0)), some (.inl v), some (.inl (σ3 34 0)), some (.inl w)]) (st' := [.inl 9, .inl w]) rfl ?_
        refine jw_W_ic rfl (by unfold jw_rg; omega) (by unfold jw_rg; omega) (fun hc8 => ?_) (fun hc8 => ?_)
        · have hc8 : w ≤ 9 := hc8
          refine jw_W_n 1 (i' := 55) (ls' := [some (.inr (.inr 33)), some (.inl (σ 34 0)), some (.inl v), some (.inl (σ3 34 0)), some (.inl w)]) (st' := [.inr (.inr 33)]) rfl ?_
          refine jw_W_gf rfl rfl rfl ?_
          show jw_W (js_S n) _ md_85 56 [some (.inr (.inr 33)), some (.inl (σ 34 0)), some (.inl v), some (.inl (σ3 34 0)), some (.inl w)] [.inr (.inr ((σ5 33 2).toNat))] σ5 _
          rw [(show (σ5 33 2).toNat = o from hto6)]
          refine jw_W_gf rfl hpo.2.1 rfl ?_
          show jw_W (js_S n) _ md_85 57 [some (.inr (.inr 33)), some (.inl (σ 34 0)), some (.inl v), some (.inl (σ3 34 0)), some (.inl w)] [.inr (.inr (o + 5))] σ5 _
          refine jw_W_n 2 (i' := 59) (ls' := [some (.inr (.inr 33)), some (.inl (σ 34 0)), some (.inl v), some (.inl (σ3 34 0)), some (.inl w)]) (st' := [.inl w, .inl v, .inr (.inr (o + 5))]) rfl ?_
          refine jw_W_is rfl (by omega) hpo.2.2.2.2.2.2 (by omega) (by omega) (by omega) ?_
          refine jw_W_re rfl ?_
          have k6 := jk_XD_row hX5 (w := o + 5) (by omega) v w
          exact ⟨rfl, k6.1, jk_D_tr hD5 k6.2, jk_box_end hX hrl hE2 hQ2 hv3 ⟨hE3, h32⟩ ⟨hE4, h42⟩ ⟨hE5, h50, h52⟩ (.inl ⟨by omega, rfl⟩)⟩
        · have hc8 : ¬ (w ≤ 9) := hc8
          refine jw_W_n 1 (i' := 50) (ls' := [some (.inr (.inr 33)), some (.inl (σ 34 0)), some (.inl v), some (.inl (σ3 34 0)), some (.inl w)]) (st' := [.inr (.inr 33)]) rfl ?_
          refine jw_W_gf rfl rfl rfl ?_
          show jw_W (js_S n) _ md_85 51 [some (.inr (.inr 33)), some (.inl (σ 34 0)), some (.inl v), some (.inl (σ3 34 0)), some (.inl w)] [.inr (.inr 34)] σ5 _
          refine jw_W_n 2 (i' := 53) (ls' := [some (.inr (.inr 33)), some (.inl (σ 34 0)), some (.inl v), some (.inl (σ3 34 0)), some (.inl w)]) (st' := [.inl (σ3 34 0), .inl 3, .inr (.inr 34)]) rfl ?_
          refine jw_W_call (as := [.inr (.inr 34), .inl 3, .inl (σ3 34 0)]) (rest := []) rfl rfl rfl rfl (Nat.le_of_ble_eq_true rfl) (.inr rfl) (jk_failX hX5 (by omega) (by omega)) (by omega) ?_ rfl
          rintro r1 σ6 ⟨rfl, hE6, h60, h62⟩
          rename jw_H => σ6
          have hto6 := hE6.1.2.1
          show jw_W (js_S n) _ md_85 54 [some (.inr (.inr 33)), some (.inl (σ 34 0)), some (.inl v), some (.inl (σ3 34 0)), some (.inl w)] [] σ6 _
          refine jw_W_n 1 (i' := 55) (ls' := [some (.inr (.inr 33)), some (.inl (σ 34 0)), some (.inl v), some (.inl (σ3 34 0)), some (.inl w)]) (st' := [.inr (.inr 33)]) rfl ?_
          refine jw_W_gf rfl rfl rfl ?_
          show jw_W (js_S n) _ md_85 56 [some (.inr (.inr 33)), some (.inl (σ 34 0)), some (.inl v), some (.inl (σ3 34 0)), some (.inl w)] [.inr (.inr ((σ6 33 2).toNat))] σ6 _
          rw [(show (σ6 33 2).toNat = o from hto6)]
          refine jw_W_gf rfl hpo.2.1 rfl ?_
          show jw_W (js_S n) _ md_85 57 [some (.inr (.inr 33)), some (.inl (σ 34 0)), some (.inl v), some (.inl (σ3 34 0)), some (.inl w)] [.inr (.inr (o + 5))] σ6 _
          refine jw_W_n 2 (i' := 59) (ls' := [some (.inr (.inr 33)), some (.inl (σ 34 0)), some (.inl v), some (.inl (σ3 34 0)), some (.inl w)]) (st' := [.inl w, .inl v, .inr (.inr (o + 5))]) rfl ?_
          refine jw_W_is rfl (by omega) hpo.2.2.2.2.2.2 (by omega) (by omega) (by omega) ?_
          refine jw_W_re rfl ?_
          have k6 := jk_XD_row hE6.1 (w := o + 5) (by omega) v w
          exact ⟨rfl, k6.1, jk_D_tr hD5 (jk_D_tr hE6.2.1 k6.2), jk_box_end hX hrl hE2 hQ2 hv3 ⟨hE3, h32⟩ ⟨hE4, h42⟩ ⟨hE5, h50, h52⟩ (.inr ⟨by omega, hE6, h62⟩)⟩
    · have hc6 : ¬ ((jw_and (σp 33 1) (jw_shl 1 v)) = 0) := hc6
      refine jw_W_n 1 (i' := 15) (ls' := [some (.inr (.inr 33)), some (.inl (σ 34 0)), some (.inl v), none, none]) (st' := [.inr (.inr 33)]) rfl ?_
      refine jw_W_gf rfl rfl rfl ?_
      show jw_W (js_S n) _ md_85 16 [some (.inr (.inr 33)), some (.inl (σ 34 0)), some (.inl v), none, none] [.inr (.inr 34)] σp _
      refine jw_W_n 2 (i' := 18) (ls' := [some (.inr (.inr 33)), some (.inl (σ 34 0)), some (.inl v), none, none]) (st' := [.inl (σ 34 0), .inl 6, .inr (.inr 34)]) rfl ?_
      refine jw_W_call (as := [.inr (.inr 34), .inl 6, .inl (σ 34 0)]) (rest := []) rfl rfl rfl rfl (Nat.le_of_ble_eq_true rfl) (.inr rfl) (jk_failX hX1 (by omega) (by omega)) (by omega) ?_ rfl
      rintro r1 σz ⟨rfl, hEf, hf0, hf2⟩
      rename jw_H => σpf
      have hE2 := jk_E_tr hE1 hEf
      have hX2 := hE2.1
      have e332 : σpf 33 1 = σ 33 1 := by rw [hE2.2.2 33 (by omega)]
      have hQ2 : jk_bq b m s (s 0 1) v σpf := by
        rcases hQ with ⟨F, u1, u2, u3⟩ | hu
        · exact .inl ⟨F, by rw [hEf.2.1.2.2.1 (by rw [u1]; exact u2), u1], u2, u3⟩
        · exact absurd hu.1 (by rw [h12 hrl.1]; omega)
      show jw_W (js_S n) _ md_85 19 [some (.inr (.inr 33)), some (.inl (σ 34 0)), some (.inl v), none, none] [] σpf _
      refine jw_W_n 2 (i' := 21) (ls' := [some (.inr (.inr 33)), some (.inl (σ 34 0)), some (.inl v), none, none]) (st' := [.inr (.inr 33), .inr (.inr 33)]) rfl ?_
      refine jw_W_gf rfl rfl rfl ?_
      show jw_W (js_S n) _ md_85 22 [some (.inr (.inr 33)), some (.inl (σ 34 0)), some (.inl v), none, none] [.inl (σpf 33 1), .inr (.inr 33)] σpf _
      refine jw_W_n 4 (i' := 26) (ls' := [some (.inr (.inr 33)), some (.inl (σ 34 0)), some (.inl v), none, none]) (st' := [.inl (jw_or (σpf 33 1) (jw_shl 1 v)), .inr (.inr 33)]) rfl ?_
      refine jw_W_pf (a := jw_or (σpf 33 1) (jw_shl 1 v)) rfl (by omega) rfl rfl rfl rfl rfl ?_
      show jw_W (js_S n) _ _ _ _ _ (jw_up σpf 33 1 (jw_or (σpf 33 1) (jw_shl 1 v))) _
      rw [e332]
      have k3 := jk_XD_b hX2 (v := jw_or (σ 33 1) (jw_shl 1 v)) (by rw [← e331]; exact hbx.1)
      refine jw_W_n 1 (i' := 28) (ls' := [some (.inr (.inr 33)), some (.inl (σ 34 0)), some (.inl v), none, none]) (st' := [.inr (.inr 33)]) rfl ?_
      refine jw_W_gf rfl rfl rfl ?_
      show jw_W (js_S n) _ md_85 29 [some (.inr (.inr 33)), some (.inl (σ 34 0)), some (.inl v), none, none] [.inr (.inr 34)] ((jw_up σpf 33 1 (jw_or (σ 33 1) (jw_shl 1 v)))) _
      refine jw_W_n 1 (i' := 30) (ls' := [some (.inr (.inr 33)), some (.inl (σ 34 0)), some (.inl v), none, none]) (st' := [.inl 60, .inr (.inr 34)]) rfl ?_
      refine jw_W_call (as := [.inr (.inr 34), .inl 60]) (rest := []) rfl rfl rfl rfl (Nat.le_of_ble_eq_true rfl) (.inr rfl) (jk_expectX k3.1 (x := 60) (by omega)) (by omega) ?_ rfl
      rintro r1 σ3 ⟨rfl, hE3, h32⟩
      rename jw_H => σ3
      have hX3 := hE3.1
      have ha3 := hX3.2.2.2.2.1
      rw [jw_up_out _ _ _ (show 34 ≠ 33 by omega)] at h32
      show jw_W (js_S n) _ md_85 31 [some (.inr (.inr 33)), some (.inl (σ 34 0)), some (.inl v), none, none] [] σ3 _
      refine jw_W_n 1 (i' := 32) (ls' := [some (.inr (.inr 33)), some (.inl (σ 34 0)), some (.inl v), none, none]) (st' := [.inr (.inr 33)]) rfl ?_
      refine jw_W_gf rfl rfl rfl ?_
      show jw_W (js_S n) _ md_85 33 [some (.inr (.inr 33)), some (.inl (σ 34 0)), some (.inl v), none, none] [.inr (.inr 34)] σ3 _
      refine jw_W_gf rfl rfl rfl ?_
      show jw_W (js_S n) _ md_85 34 [some (.inr (.inr 33)), some (.inl (σ 34 0)), some (.inl v), none, none] [.inl (σ3 34 0)] σ3 _
      refine jw_W_n 2 (i' := 36) (ls' := [some (.inr (.inr 33)), some (.inl (σ 34 0)), some (.inl v), some (.inl (σ3 34 0)), none]) (st' := [.inr (.inr 33)]) rfl ?_
      refine jw_W_gf rfl rfl rfl ?_
      show jw_W (js_S n) _ md_85 37 [some (.inr (.inr 33)), some (.inl (σ 34 0)), some (.inl v), some (.inl (σ3 34 0)), none] [.inr (.inr 34)] σ3 _
      refine jw_W_n 1 (i' := 38) (ls' := [some (.inr (.inr 33)), some (.inl (σ 34 0)), some (.inl v), some (.inl (σ3 34 0)), none]) (st' := [.inl 2, .inr (.inr 34)]) rfl ?_
      refine jw_W_call (as := [.inr (.inr 34), .inl 2]) (rest := []) rfl rfl rfl rfl (Nat.le_of_ble_eq_true rfl) (.inr rfl) (jk_numberX hX3) (by omega) ?_ rfl
      rintro r1 σ4 ⟨w, rfl, hw, hE4, h42⟩
      rename jw_H => σ4
      have hX4 := hE4.1
      show jw_W (js_S n) _ md_85 39 [some (.inr (.inr 33)), some (.inl (σ 34 0)), some (.inl v), some (.inl (σ3 34 0)), none] [.inl w] σ4 _
      refine jw_W_n 2 (i' := 41) (ls' := [some (.inr (.inr 33)), some (.inl (σ 34 0)), some (.inl v), some (.inl (σ3 34 0)), some (.inl w)]) (st' := [.inr (.inr 33)]) rfl ?_
      refine jw_W_gf rfl rfl rfl ?_
      show jw_W (js_S n) _ md_85 42 [some (.inr (.inr 33)), some (.inl (σ 34 0)), some (.inl v), some (.inl (σ3 34 0)), some (.inl w)] [.inr (.inr 34)] σ4 _
      refine jw_W_call (as := [.inr (.inr 34)]) (rest := []) rfl rfl rfl rfl (Nat.le_of_ble_eq_true rfl) (.inr rfl) (jk_refuseX hX4) (by omega) ?_ rfl
      rintro r1 σ5 ⟨rfl, hE5, h50, h52⟩
      rename jw_H => σ5
      have hX5 := hE5.1
      have hto6 := hX5.2.1
      have hD5 := jk_D_tr (jk_D_tr hE2.2.1 k3.2) (jk_D_tr hE3.2.1 (jk_D_tr hE4.2.1 hE5.2.1))
      show jw_W (js_S n) _ md_85 43 [some (.inr (.inr 33)), some (.inl (σ 34 0)), some (.inl v), some (.inl (σ3 34 0)), some (.inl w)] [] σ5 _
      refine jw_W_n 2 (i' := 45) (ls' := [some (.inr (.inr 33)), some (.inl (σ 34 0)), some (.inl v), some (.inl (σ3 34 0)), some (.inl w)]) (st' := [.inl 1, .inl w]) rfl ?_
      refine jw_W_ic rfl (by unfold jw_rg; omega) (by unfold jw_rg; omega) (fun hc9 => ?_) (fun hc9 => ?_)
      · have hc9 : w < 1 := hc9
        refine jw_W_n 1 (i' := 50) (ls' := [some (.inr (.inr 33)), some (.inl (σ 34 0)), some (.inl v), some (.inl (σ3 34 0)), some (.inl w)]) (st' := [.inr (.inr 33)]) rfl ?_
        refine jw_W_gf rfl rfl rfl ?_
        show jw_W (js_S n) _ md_85 51 [some (.inr (.inr 33)), some (.inl (σ 34 0)), some (.inl v), some (.inl (σ3 34 0)), some (.inl w)] [.inr (.inr 34)] σ5 _
        refine jw_W_n 2 (i' := 53) (ls' := [some (.inr (.inr 33)), some (.inl (σ 34 0)), some (.inl v), some (.inl (σ3 34 0)), some (.inl w)]) (st' := [.inl (σ3 34 0), .inl 3, .inr (.inr 34)]) rfl ?_
        refine jw_W_call (as := [.inr (.inr 34), .inl 3, .inl (σ3 34 0)]) (rest := []) rfl rfl rfl rfl (Nat.le_of_ble_eq_true rfl) (.inr rfl) (jk_failX hX5 (by omega) (by omega)) (by omega) ?_ rfl
        rintro r1 σ6 ⟨rfl, hE6, h60, h62⟩
        rename jw_H => σ6
        have hto6 := hE6.1.2.1
        show jw_W (js_S n) _ md_85 54 [some (.inr (.inr 33)), some (.inl (σ 34 0)), some (.inl v), some (.inl (σ3 34 0)), some (.inl w)] [] σ6 _
        refine jw_W_n 1 (i' := 55) (ls' := [some (.inr (.inr 33)), some (.inl (σ 34 0)), some (.inl v), some (.inl (σ3 34 0)), some (.inl w)]) (st' := [.inr (.inr 33)]) rfl ?_
        refine jw_W_gf rfl rfl rfl ?_
        show jw_W (js_S n) _ md_85 56 [some (.inr (.inr 33)), some (.inl (σ 34 0)), some (.inl v), some (.inl (σ3 34 0)), some (.inl w)] [.inr (.inr ((σ6 33 2).toNat))] σ6 _
        rw [(show (σ6 33 2).toNat = o from hto6)]
        refine jw_W_gf rfl hpo.2.1 rfl ?_
        show jw_W (js_S n) _ md_85 57 [some (.inr (.inr 33)), some (.inl (σ 34 0)), some (.inl v), some (.inl (σ3 34 0)), some (.inl w)] [.inr (.inr (o + 5))] σ6 _
        refine jw_W_n 2 (i' := 59) (ls' := [some (.inr (.inr 33)), some (.inl (σ 34 0)), some (.inl v), some (.inl (σ3 34 0)), some (.inl w)]) (st' := [.inl w, .inl v, .inr (.inr (o + 5))]) rfl ?_
        refine jw_W_is rfl (by omega) hpo.2.2.2.2.2.2 (by omega) (by omega) (by omega) ?_
        refine jw_W_re rfl ?_
        have k6 := jk_XD_row hE6.1 (w := o + 5) (by omega) v w
        exact ⟨rfl, k6.1, jk_D_tr hD5 (jk_D_tr hE6.2.1 k6.2), jk_box_end hX hrl hE2 hQ2 hv3 ⟨hE3, h32⟩ ⟨hE4, h42⟩ ⟨hE5, h50, h52⟩ (.inr ⟨by omega, hE6, h62⟩)⟩
      · have hc9 : ¬ (w < 1) := hc9
        refine jw_W_n 2 (i' := 48) (ls' := [some (.inr (.inr 33)), some (.inl (σ 34 0)), some (.inl v), some (.inl (σ3 34 0)), some (.inl w)]) (st' := [.inl 9, .inl w]) rfl ?_
        refine jw_W_ic rfl (by unfold jw_rg; omega) (by unfold jw_rg; omega) (fun hc10 => ?_) (fun hc10 => ?_)
        · have hc10 : w ≤ 9 := hc10
          refine jw_W_n 1 (i' := 55) (ls' := [some (.inr (.inr 33)), some (.inl (σ 34 0)), some (.inl v), some (.inl (σ3 34 0)), some (.inl w)]) (st' := [.inr (.inr 33)]) rfl ?_
          refine jw_W_gf rfl rfl rfl ?_
          show jw_W (js_S n) _ md_85 56 [some (.inr (.inr 33)), some (.inl (σ 34 0)), some (.inl v), some (.inl (σ3 34 0)), some (.inl w)] [.inr (.inr ((σ5 33 2).toNat))] σ5 _
          rw [(show (σ5 33 2).toNat = o from hto6)]
          refine jw_W_gf rfl hpo.2.1 rfl ?_
          show jw_W (js_S n) _ md_85 57 [some (.inr (.inr 33)), some (.inl (σ 34 0)), some (.inl v), some (.inl (σ3 34 0)), some (.inl w)] [.inr (.inr (o + 5))] σ5 _
          refine jw_W_n 2 (i' := 59) (ls' := [some (.inr (.inr 33)), some (.inl (σ 34 0)), some (.inl v), some (.inl (σ3 34 0)), some (.inl w)]) (st' := [.inl w, .inl v, .inr (.inr (o + 5))]) rfl ?_
          refine jw_W_is rfl (by omega) hpo.2.2.2.2.2.2 (by omega) (by omega) (by omega) ?_
          refine jw_W_re rfl ?_
          have k6 := jk_XD_row hX5 (w := o + 5) (by omega) v w
          exact ⟨rfl, k6.1, jk_D_tr hD5 k6.2, jk_box_end hX hrl hE2 hQ2 hv3 ⟨hE3, h32⟩ ⟨hE4, h42⟩ ⟨hE5, h50, h52⟩ (.inl ⟨by omega, rfl⟩)⟩
        · have hc10 : ¬ (w ≤ 9) := hc10
          refine jw_W_n 1 (i' := 50) (ls' := [some (.inr (.inr 33)), some (.inl (σ 34 0)), some (.inl v), some (.inl (σ3 34 0)), some (.inl w)]) (st' := [.inr (.inr 33)]) rfl ?_
          refine jw_W_gf rfl rfl rfl ?_
          show jw_W (js_S n) _ md_85 51 [some (.inr (.inr 33)), some (.inl (σ 34 0)), some (.inl v), some (.inl (σ3 34 0)), some (.inl w)] [.inr (.inr 34)] σ5 _
          refine jw_W_n 2 (i' := 53) (ls' := [some (.inr (.inr 33)), some (.inl (σ 34 0)), some (.inl v), some (.inl (σ3 34 0)), some (.inl w)]) (st' := [.inl (σ3 34 0), .inl 3, .inr (.inr 34)]) rfl ?_
          refine jw_W_call (as := [.inr (.inr 34), .inl 3, .inl (σ3 34 0)]) (rest := []) rfl rfl rfl rfl (Nat.le_of_ble_eq_true rfl) (.inr rfl) (jk_failX hX5 (by omega) (by omega)) (by omega) ?_ rfl
          rintro r1 σ6 ⟨rfl, hE6, h60, h62⟩
          rename jw_H => σ6
          have hto6 := hE6.1.2.1
          show jw_W (js_S n) _ md_85 54 [some (.inr (.inr 33)), some (.inl (σ 34 0)), some (.inl v), some (.inl (σ3 34 0)), some (.inl w)] [] σ6 _
          refine jw_W_n 1 (i' := 55) (ls' := [some (.inr (.inr 33)), some (.inl (σ 34 0)), some (.inl v), some (.inl (σ3 34 0)), some (.inl w)]) (st' := [.inr (.inr 33)]) rfl ?_
          refine jw_W_gf rfl rfl rfl ?_
          show jw_W (js_S n) _ md_85 56 [some (.inr (.inr 33)), some (.inl (σ 34 0)), some (.inl v), some (.inl (σ3 34 0)), some (.inl w)] [.inr (.inr ((σ6 33 2).toNat))] σ6 _
          rw [(show (σ6 33 2).toNat = o from hto6)]
          refine jw_W_gf rfl hpo.2.1 rfl ?_
          show jw_W (js_S n) _ md_85 57 [some (.inr (.inr 33)), some (.inl (σ 34 0)), some (.inl v), some (.inl (σ3 34 0)), some (.inl w)] [.inr (.inr (o + 5))] σ6 _
          refine jw_W_n 2 (i' := 59) (ls' := [some (.inr (.inr 33)), some (.inl (σ 34 0)), some (.inl v), some (.inl (σ3 34 0)), some (.inl w)]) (st' := [.inl w, .inl v, .inr (.inr (o + 5))]) rfl ?_
          refine jw_W_is rfl (by omega) hpo.2.2.2.2.2.2 (by omega) (by omega) (by omega) ?_
          refine jw_W_re rfl ?_
          have k6 := jk_XD_row hE6.1 (w := o + 5) (by omega) v w
          exact ⟨rfl, k6.1, jk_D_tr hD5 (jk_D_tr hE6.2.1 k6.2), jk_box_end hX hrl hE2 hQ2 hv3 ⟨hE3, h32⟩ ⟨hE4, h42⟩ ⟨hE5, h50, h52⟩ (.inr ⟨by omega, hE6, h62⟩)⟩
  · rename jw_H => σg
    have hX1 := hE1.1
    have e331 : σg 33 1 = σ 33 1 := by rw [hE1.2.2 33 (by omega)]
    have hlu := hl
    unfold jk_let at hlu
    have hv3 : 0 ≤ v ∧ v < 3 := by omega
    have hbx := jk_box8 (x := σg 33 1) (by omega) hv3
    show jw_W (js_S n) _ md_85 6 [some (.inr (.inr 33)), some (.inl (σ 34 0)), none, none, none] [.inl v] σg _
    refine jw_W_n 2 (i' := 8) (ls' := [some (.inr (.inr 33)), some (.inl (σ 34 0)), some (.inl v), none, none]) (st' := [.inr (.inr 33)]) rfl ?_
    refine jw_W_gf rfl rfl rfl ?_
    show jw_W (js_S n) _ md_85 9 [some (.inr (.inr 33)), some (.inl (σ 34 0)), some (.inl v), none, none] [.inl (σg 33 1)] σg _
    refine jw_W_n 4 (i' := 13) (ls' := [some (.inr (.inr 33)), some (.inl (σ 34 0)), some (.inl v), none, none]) (st' := [.inl (jw_and (σg 33 1) (jw_shl 1 v))]) rfl ?_
    refine jw_W_if rfl (by unfold jw_rg; omega) (fun hc11 => ?_) (fun hc11 => ?_)
    · have hc11 : (jw_and (σg 33 1) (jw_shl 1 v)) = 0 := hc11
      have hE2 := hE1
      have hX2 := hX1
      have e332 := e331
      have hQ2 : jk_bq b m s (s 0 1) v σg := .inr ⟨h12.trans hrl.1, by rw [h10, hrl.2.2.1], by rw [← hrl.2.2.1]; exact hl, by rw [← hrl.2.2.1]; exact hv, by rw [← hrl.2.2.2.1]; exact hq, by rw [← hrl.2.2.2.2.2.2.1, ← e331]; assumption⟩
      refine jw_W_n 2 (i' := 21) (ls' := [some (.inr (.inr 33)), some (.inl (σ 34 0)), some (.inl v), none, none]) (st' := [.inr (.inr 33), .inr (.inr 33)]) rfl ?_
      refine jw_W_gf rfl rfl rfl ?_
      show jw_W (js_S n) _ md_85 22 [some (.inr (.inr 33)), some (.inl (σ 34 0)), some (.inl v), none, none] [.inl (σg 33 1), .inr (.inr 33)] σg _
      refine jw_W_n 4 (i' := 26) (ls' := [some (.inr (.inr 33)), some (.inl (σ 34 0)), some (.inl v), none, none]) (st' := [.inl (jw_or (σg 33 1) (jw_shl 1 v)), .inr (.inr 33)]) rfl ?_
      refine jw_W_pf (a := jw_or (σg 33 1) (jw_shl 1 v)) rfl (by omega) rfl rfl rfl rfl rfl ?_
      show jw_W (js_S n) _ _ _ _ _ (jw_up σg 33 1 (jw_or (σg 33 1) (jw_shl 1 v))) _
      rw [e332]
      have k3 := jk_XD_b hX2 (v := jw_or (σ 33 1) (jw_shl 1 v)) (by rw [← e331]; exact hbx.1)
      refine jw_W_n 1 (i' := 28) (ls' := [some (.inr (.inr 33)), some (.inl (σ 34 0)), some (.inl v), none, none]) (st' := [.inr (.inr 33)]) rfl ?_
      refine jw_W_gf rfl rfl rfl ?_
      show jw_W (js_S n) _ md_85 29 [some (.inr (.inr 33)), some (.inl (σ 34 0)), some (.inl v), none, none] [.inr (.inr 34)] ((jw_up σg 33 1 (jw_or (σ 33 1) (jw_shl 1 v)))) _
      refine jw_W_n 1 (i' := 30) (ls' := [some (.inr (.inr 33)), some (.inl (σ 34 0)), some (.inl v), none, none]) (st' := [.inl 60, .inr (.inr 34)]) rfl ?_
      refine jw_W_call (as := [.inr (.inr 34), .inl 60]) (rest := []) rfl rfl rfl rfl (Nat.le_of_ble_eq_true rfl) (.inr rfl) (jk_expectX k3.1 (x := 60) (by omega)) (by omega) ?_ rfl
      rintro r1 σ3 ⟨rfl, hE3, h32⟩
      rename jw_H => σ3
      have hX3 := hE3.1
      have ha3 := hX3.2.2.2.2.1
      rw [jw_up_out _ _ _ (show 34 ≠ 33 by omega)] at h32
      show jw_W (js_S n) _ md_85 31 [some (.inr (.inr 33)), some (.inl (σ 34 0)), some (.inl v), none, none] [] σ3 _
      refine jw_W_n 1 (i' := 32) (ls' := [some (.inr (.inr 33)), some (.inl (σ 34 0)), some (.inl v), none, none]) (st' := [.inr (.inr 33)]) rfl ?_
      refine jw_W_gf rfl rfl rfl ?_
      show jw_W (js_S n) _ md_85 33 [some (.inr (.inr 33)), some (.inl (σ 34 0)), some (.inl v), none, none] [.inr (.inr 34)] σ3 _
      refine jw_W_gf rfl rfl rfl ?_
      show jw_W (js_S n) _ md_85 34 [some (.inr (.inr 33)), some (.inl (σ 34 0)), some (.inl v), none, none] [.inl (σ3 34 0)] σ3 _
      refine jw_W_n 2 (i' := 36) (ls' := [some (.inr (.inr 33)), some (.inl (σ 34 0)), some (.inl v), some (.inl (σ3 34 0)), none]) (st' := [.inr (.inr 33)]) rfl ?_
      refine jw_W_gf rfl rfl rfl ?_
      show jw_W (js_S n) _ md_85 37 [some (.inr (.inr 33)), some (.inl (σ 34 0)), some (.inl v), some (.inl (σ3 34 0)), none] [.inr (.inr 34)] σ3 _
      refine jw_W_n 1 (i' := 38) (ls' := [some (.inr (.inr 33)), some (.inl (σ 34 0)), some (.inl v), some (.inl (σ3 34 0)), none]) (st' := [.inl 2, .inr (.inr 34)]) rfl ?_
      refine jw_W_call (as := [.inr (.inr 34), .inl 2]) (rest := []) rfl rfl rfl rfl (Nat.le_of_ble_eq_true rfl) (.inr rfl) (jk_numberX hX3) (by omega) ?_ rfl
      rintro r1 σ4 ⟨w, rfl, hw, hE4, h42⟩
      rename jw_H => σ4
      have hX4 := hE4.1
      show jw_W (js_S n) _ md_85 39 [some (.inr (.inr 33)), some (.inl (σ 34 0)), some (.inl v), some (.inl (σ3 34 0)), none] [.inl w] σ4 _
      refine jw_W_n 2 (i' := 41) (ls' := [some (.inr (.inr 33)), some (.inl (σ 34 0)), some (.inl v), some (.inl (σ3 34 0)), some (.inl w)]) (st' := [.inr (.inr 33)]) rfl ?_
      refine jw_W_gf rfl rfl rfl ?_
      show jw_W (js_S n) _ md_85 42 [some (.inr (.inr 33)), some (.inl (σ 34 0)), some (.inl v), some (.inl (σ3 34 0)), some (.inl w)] [.inr (.inr 34)] σ4 _
      refine jw_W_call (as := [.inr (.inr 34)]) (rest := []) rfl rfl rfl rfl (Nat.le_of_ble_eq_true rfl) (.inr rfl) (jk_refuseX hX4) (by omega) ?_ rfl
      rintro r1 σ5 ⟨rfl, hE5, h50, h52⟩
      rename jw_H => σ5
      have hX5 := hE5.1
      have hto6 := hX5.2.1
      have hD5 := jk_D_tr (jk_D_tr hE2.2.1 k3.2) (jk_D_tr hE3.2.1 (jk_D_tr hE4.2.1 hE5.2.1))
      show jw_W (js_S n) _ md_85 43 [some (.inr (.inr 33)), some (.inl (σ 34 0)), some (.inl v), some (.inl (σ3 34 0)), some (.inl w)] [] σ5 _
      refine jw_W_n 2 (i' := 45) (ls' := [some (.inr (.inr 33)), some (.inl (σ 34 0)), some (.inl v), some (.inl (σ3 34 0)), some (.inl w)]) (st' := [.inl 1, .inl w]) rfl ?_
      refine jw_W_ic rfl (by unfold jw_rg; omega) (by unfold jw_rg; omega) (fun hc12 => ?_) (fun hc12 => ?_)
      · have hc12 : w < 1 := hc12
        refine jw_W_n 1 (i' := 50) (ls' := [some (.inr (.inr 33)), some (.inl (σ 34 0)), some (.inl v), some (.inl (σ3 34 0)), some (.inl w)]) (st' := [.inr (.inr 33)]) rfl ?_
        refine jw_W_gf rfl rfl rfl ?_
        show jw_W (js_S n) _ md_85 51 [some (.inr (.inr 33)), some (.inl (σ 34 0)), some (.inl v), some (.inl (σ3 34 0)), some (.inl w)] [.inr (.inr 34)] σ5 _
        refine jw_W_n 2 (i' := 53) (ls' := [some (.inr (.inr 33)), some (.inl (σ 34 0)), some (.inl v), some (.inl (σ3 34 0)), some (.inl w)]) (st' := [.inl (σ3 34 0), .inl 3, .inr (.inr 34)]) rfl ?_
        refine jw_W_call (as := [.inr (.inr 34), .inl 3, .inl (σ3 34 0)]) (rest := []) rfl rfl rfl rfl (Nat.le_of_ble_eq_true rfl) (.inr rfl) (jk_failX hX5 (by omega) (by omega)) (by omega) ?_ rfl
        rintro r1 σ6 ⟨rfl, hE6, h60, h62⟩
        rename jw_H => σ6
        have hto6 := hE6.1.2.1
        show jw_W (js_S n) _ md_85 54 [some (.inr (.inr 33)), some (.inl (σ 34 0)), some (.inl v), some (.inl (σ3 34 0)), some (.inl w)] [] σ6 _
        refine jw_W_n 1 (i' := 55) (ls' := [some (.inr (.inr 33)), some (.inl (σ 34 0)), some (.inl v), some (.inl (σ3 34 0)), some (.inl w)]) (st' := [.inr (.inr 33)]) rfl ?_
        refine jw_W_gf rfl rfl rfl ?_
        show jw_W (js_S n) _ md_85 56 [some (.inr (.inr 33)), some (.inl (σ 34 0)), some (.inl v), some (.inl (σ3 34 0)), some (.inl w)] [.inr (.inr ((σ6 33 2).toNat))] σ6 _
        rw [(show (σ6 33 2).toNat = o from hto6)]
        refine jw_W_gf rfl hpo.2.1 rfl ?_
        show jw_W (js_S n) _ md_85 57 [some (.inr (.inr 33)), some (.inl (σ 34 0)), some (.inl v), some (.inl (σ3 34 0)), some (.inl w)] [.inr (.inr (o + 5))] σ6 _
        refine jw_W_n 2 (i' := 59) (ls' := [some (.inr (.inr 33)), some (.inl (σ 34 0)), some (.inl v), some (.inl (σ3 34 0)), some (.inl w)]) (st' := [.inl w, .inl v, .inr (.inr (o + 5))]) rfl ?_
        refine jw_W_is rfl (by omega) hpo.2.2.2.2.2.2 (by omega) (by omega) (by omega) ?_
        refine jw_W_re rfl ?_
        have k6 := jk_XD_row hE6.1 (w := o + 5) (by omega) v w
        exact ⟨rfl, k6.1, jk_D_tr hD5 (jk_D_tr hE6.2.1 k6.2), jk_box_end hX hrl hE2 hQ2 hv3 ⟨hE3, h32⟩ ⟨hE4, h42⟩ ⟨hE5, h50, h52⟩ (.inr ⟨by omega, hE6, h62⟩)⟩
      · have hc12 : ¬ (w < 1) := hc12
        refine jw_W_n 2 (i' := 48) (ls' := [some (.inr (.inr 33)), some (.inl (σ 34 0)), some (.inl v), some (.inl (σ3 34 0)), some (.inl w)]) (st' := [.inl 9, .inl w]) rfl ?_
        refine jw_W_ic rfl (by unfold jw_rg; omega) (by unfold jw_rg; omega) (fun hc13 => ?_) (fun hc13 => ?_)
        · have hc13 : w ≤ 9 := hc13
          refine jw_W_n 1 (i' := 55) (ls' := [some (.inr (.inr 33)), some (.inl (σ 34 0)), some (.inl v), some (.inl (σ3 34 0)), some (.inl w)]) (st' := [.inr (.inr 33)]) rfl ?_
          refine jw_W_gf rfl rfl rfl ?_
          show jw_W (js_S n) _ md_85 56 [some (.inr (.inr 33)), some (.inl (σ 34 0)), some (.inl v), some (.inl (σ3 34 0)), some (.inl w)] [.inr (.inr ((σ5 33 2).toNat))] σ5 _
          rw [(show (σ5 33 2).toNat = o from hto6)]
          refine jw_W_gf rfl hpo.2.1 rfl ?_
          show jw_W (js_S n) _ md_85 57 [some (.inr (.inr 33)), some (.inl (σ 34 0)), some (.inl v), some (.inl (σ3 34 0)), some (.inl w)] [.inr (.inr (o + 5))] σ5 _
          refine jw_W_n 2 (i' := 59) (ls' := [some (.inr (.inr 33)), some (.inl (σ 34 0)), some (.inl v), some (.inl (σ3 34 0)), some (.inl w)]) (st' := [.inl w, .inl v, .inr (.inr (o + 5))]) rfl ?_
          refine jw_W_is rfl (by omega) hpo.2.2.2.2.2.2 (by omega) (by omega) (by omega) ?_
          refine jw_W_re rfl ?_
          have k6 := jk_XD_row hX5 (w := o + 5) (by omega) v w
          exact ⟨rfl, k6.1, jk_D_tr hD5 k6.2, jk_box_end hX hrl hE2 hQ2 hv3 ⟨hE3, h32⟩ ⟨hE4, h42⟩ ⟨hE5, h50, h52⟩ (.inl ⟨by omega, rfl⟩)⟩
        · have hc13 : ¬ (w ≤ 9) := hc13
          refine jw_W_n 1 (i' := 50) (ls' := [some (.inr (.inr 33)), some (.inl (σ 34 0)), some (.inl v), some (.inl (σ3 34 0)), some (.inl w)]) (st' := [.inr (.inr 33)]) rfl ?_
          refine jw_W_gf rfl rfl rfl ?_
          show jw_W (js_S n) _ md_85 51 [some (.inr (.inr 33)), some (.inl (σ 34 0)), some (.inl v), some (.inl (σ3 34 0)), some (.inl w)] [.inr (.inr 34)] σ5 _
          refine jw_W_n 2 (i' := 53) (ls' := [some (.inr (.inr 33)), some (.inl (σ 34 0)), some (.inl v), some (.inl (σ3 34 0)), some (.inl w)]) (st' := [.inl (σ3 34 0), .inl 3, .inr (.inr 34)]) rfl ?_
          refine jw_W_call (as := [.inr (.inr 34), .inl 3, .inl (σ3 34 0)]) (rest := []) rfl rfl rfl rfl (Nat.le_of_ble_eq_true rfl) (.inr rfl) (jk_failX hX5 (by omega) (by omega)) (by omega) ?_ rfl
          rintro r1 σ6 ⟨rfl, hE6, h60, h62⟩
          rename jw_H => σ6
          have hto6 := hE6.1.2.1
          show jw_W (js_S n) _ md_85 54 [some (.inr (.inr 33)), some (.inl (σ 34 0)), some (.inl v), some (.inl (σ3 34 0)), some (.inl w)] [] σ6 _
          refine jw_W_n 1 (i' := 55) (ls' := [some (.inr (.inr 33)), some (.inl (σ 34 0)), some (.inl v), some (.inl (σ3 34 0)), some (.inl w)]) (st' := [.inr (.inr 33)]) rfl ?_
          refine jw_W_gf rfl rfl rfl ?_
          show jw_W (js_S n) _ md_85 56 [some (.inr (.inr 33)), some (.inl (σ 34 0)), some (.inl v), some (.inl (σ3 34 0)), some (.inl w)] [.inr (.inr ((σ6 33 2).toNat))] σ6 _
          rw [(show (σ6 33 2).toNat = o from hto6)]
          refine jw_W_gf rfl hpo.2.1 rfl ?_
          show jw_W (js_S n) _ md_85 57 [some (.inr (.inr 33)), some (.inl (σ 34 0)), some (.inl v), some (.inl (σ3 34 0)), some (.inl w)] [.inr (.inr (o + 5))] σ6 _
          refine jw_W_n 2 (i' := 59) (ls' := [some (.inr (.inr 33)), some (.inl (σ 34 0)), some (.inl v), some (.inl (σ3 34 0)), some (.inl w)]) (st' := [.inl w, .inl v, .inr (.inr (o + 5))]) rfl ?_
          refine jw_W_is rfl (by omega) hpo.2.2.2.2.2.2 (by omega) (by omega) (by omega) ?_
          refine jw_W_re rfl ?_
          have k6 := jk_XD_row hE6.1 (w := o + 5) (by omega) v w
          exact ⟨rfl, k6.1, jk_D_tr hD5 (jk_D_tr hE6.2.1 k6.2), jk_box_end hX hrl hE2 hQ2 hv3 ⟨hE3, h32⟩ ⟨hE4, h42⟩ ⟨hE5, h50, h52⟩ (.inr ⟨by omega, hE6, h62⟩)⟩
    · have hc11 : ¬ ((jw_and (σg 33 1) (jw_shl 1 v)) = 0) := hc11
      refine jw_W_n 1 (i' := 15) (ls' := [some (.inr (.inr 33)), some (.inl (σ 34 0)), some (.inl v), none, none]) (st' := [.inr (.inr 33)]) rfl ?_
      refine jw_W_gf rfl rfl rfl ?_
      show jw_W (js_S n) _ md_85 16 [some (.inr (.inr 33)), some (.inl (σ 34 0)), some (.inl v), none, none] [.inr (.inr 34)] σg _
      refine jw_W_n 2 (i' := 18) (ls' := [some (.inr (.inr 33)), some (.inl (σ 34 0)), some (.inl v), none, none]) (st' := [.inl (σ 34 0), .inl 6, .inr (.inr 34)]) rfl ?_
      refine jw_W_call (as := [.inr (.inr 34), .inl 6, .inl (σ 34 0)]) (rest := []) rfl rfl rfl rfl (Nat.le_of_ble_eq_true rfl) (.inr rfl) (jk_failX hX1 (by omega) (by omega)) (by omega) ?_ rfl
      rintro r1 σz ⟨rfl, hEf, hf0, hf2⟩
      rename jw_H => σgf
      have hE2 := jk_E_tr hE1 hEf
      have hX2 := hE2.1
      have e332 : σgf 33 1 = σ 33 1 := by rw [hE2.2.2 33 (by omega)]
      have hQ2 : jk_bq b m s (s 0 1) v σgf := .inl ⟨_, hf2 (h12.trans hrl.1), by omega, by rw [hrl.2.2.1]; exact jk_pbx_3 (by rw [← hrl.2.2.1]; exact hl) (by rw [← hrl.2.2.1, ← hrl.2.2.2.1]; omega) (by rw [← hrl.2.2.1, ← hrl.2.2.2.2.2.2.1, ← e331, ← hv]; assumption)⟩
      show jw_W (js_S n) _ md_85 19 [some (.inr (.inr 33)), some (.inl (σ 34 0)), some (.inl v), none, none] [] σgf _
      refine jw_W_n 2 (i' := 21) (ls' := [some (.inr (.inr 33)), some (.inl (σ 34 0)), some (.inl v), none, none]) (st' := [.inr (.inr 33), .inr (.inr 33)]) rfl ?_
      refine jw_W_gf rfl rfl rfl ?_
      show jw_W (js_S n) _ md_85 22 [some (.inr (.inr 33)), some (.inl (σ 34 0)), some (.inl v), none, none] [.inl (σgf 33 1), .inr (.inr 33)] σgf _
      refine jw_W_n 4 (i' := 26) (ls' := [some (.inr (.inr 33)), some (.inl (σ 34 0)), some (.inl v), none, none]) (st' := [.inl (jw_or (σgf 33 1) (jw_shl 1 v)), .inr (.inr 33)]) rfl ?_
      refine jw_W_pf (a := jw_or (σgf 33 1) (jw_shl 1 v)) rfl (by omega) rfl rfl rfl rfl rfl ?_
      show jw_W (js_S n) _ _ _ _ _ (jw_up σgf 33 1 (jw_or (σgf 33 1) (jw_shl 1 v))) _
      rw [e332]
      have k3 := jk_XD_b hX2 (v := jw_or (σ 33 1) (jw_shl 1 v)) (by rw [← e331]; exact hbx.1)
      refine jw_W_n 1 (i' := 28) (ls' := [some (.inr (.inr 33)), some (.inl (σ 34 0)), some (.inl v), none, none]) (st' := [.inr (.inr 33)]) rfl ?_
      refine jw_W_gf rfl rfl rfl ?_
      show jw_W (js_S n) _ md_85 29 [some (.inr (.inr 33)), some (.inl (σ 34 0)), some (.inl v), none, none] [.inr (.inr 34)] ((jw_up σgf 33 1 (jw_or (σ 33 1) (jw_shl 1 v)))) _
      refine jw_W_n 1 (i' := 30) (ls' := [some (.inr (.inr 33)), some (.inl (σ 34 0)), some (.inl v), none, none]) (st' := [.inl 60, .inr (.inr 34)]) rfl ?_
      refine jw_W_call (as := [.inr (.inr 34), .inl 60]) (rest := []) rfl rfl rfl rfl (Nat.le_of_ble_eq_true rfl) (.inr rfl) (jk_expectX k3.1 (x := 60) (by omega)) (by omega) ?_ rfl
      rintro r1 σ3 ⟨rfl, hE3, h32⟩
      rename jw_H => σ3
      have hX3 := hE3.1
      have ha3 := hX3.2.2.2.2.1
      rw [jw_up_out _ _ _ (show 34 ≠ 33 by omega)] at h32
      show jw_W (js_S n) _ md_85 31 [some (.inr (.inr 33)), some (.inl (σ 34 0)), some (.inl v), none, none] [] σ3 _
      refine jw_W_n 1 (i' := 32) (ls' := [some (.inr (.inr 33)), some (.inl (σ 34 0)), some (.inl v), none, none]) (st' := [.inr (.inr 33)]) rfl ?_
      refine jw_W_gf rfl rfl rfl ?_
      show jw_W (js_S n) _ md_85 33 [some (.inr (.inr 33)), some (.inl (σ 34 0)), some (.inl v), none, none] [.inr (.inr 34)] σ3 _
      refine jw_W_gf rfl rfl rfl ?_
      show jw_W (js_S n) _ md_85 34 [some (.inr (.inr 33)), some (.inl (σ 34 0)), some (.inl v), none, none] [.inl (σ3 34 0)] σ3 _
      refine jw_W_n 2 (i' := 36) (ls' := [some (.inr (.inr 33)), some (.inl (σ 34 0)), some (.inl v), some (.inl (σ3 34 0)), none]) (st' := [.inr (.inr 33)]) rfl ?_
      refine jw_W_gf rfl rfl rfl ?_
      show jw_W (js_S n) _ md_85 37 [some (.inr (.inr 33)), some (.inl (σ 34 0)), some (.inl v), some (.inl (σ3 34 0)), none] [.inr (.inr 34)] σ3 _
      refine jw_W_n 1 (i' := 38) (ls' := [some (.inr (.inr 33)), some (.inl (σ 34 0)), some (.inl v), some (.inl (σ3 34 0)), none]) (st' := [.inl 2, .inr (.inr 34)]) rfl ?_
      refine jw_W_call (as := [.inr (.inr 34), .inl 2]) (rest := []) rfl rfl rfl rfl (Nat.le_of_ble_eq_true rfl) (.inr rfl) (jk_numberX hX3) (by omega) ?_ rfl
      rintro r1 σ4 ⟨w, rfl, hw, hE4, h42⟩
      rename jw_H => σ4
      have hX4 := hE4.1
      show jw_W (js_S n) _ md_85 39 [some (.inr (.inr 33)), some (.inl (σ 34 0)), some (.inl v), some (.inl (σ3 34 0)), none] [.inl w] σ4 _
      refine jw_W_n 2 (i' := 41) (ls' := [some (.inr (.inr 33)), some (.inl (σ 34 0)), some (.inl v), some (.inl (σ3 34 0)), some (.inl w)]) (st' := [.inr (.inr 33)]) rfl ?_
      refine jw_W_gf rfl rfl rfl ?_
      show jw_W (js_S n) _ md_85 42 [some (.inr (.inr 33)), some (.inl (σ 34 0)), some (.inl v), some (.inl (σ3 34 0)), some (.inl w)] [.inr (.inr 34)] σ4 _
      refine jw_W_call (as := [.inr (.inr 34)]) (rest := []) rfl rfl rfl rfl (Nat.le_of_ble_eq_true rfl) (.inr rfl) (jk_refuseX hX4) (by omega) ?_ rfl
      rintro r1 σ5 ⟨rfl, hE5, h50, h52⟩
      rename jw_H => σ5
      have hX5 := hE5.1
      have hto6 := hX5.2.1
      have hD5 := jk_D_tr (jk_D_tr hE2.2.1 k3.2) (jk_D_tr hE3.2.1 (jk_D_tr hE4.2.1 hE5.2.1))
      show jw_W (js_S n) _ md_85 43 [some (.inr (.inr 33)), some (.inl (σ 34 0)), some (.inl v), some (.inl (σ3 34 0)), some (.inl w)] [] σ5 _
      refine jw_W_n 2 (i' := 45) (ls' := [some (.inr (.inr 33)), some (.inl (σ 34 0)), some (.inl v), some (.inl (σ3 34 0)), some (.inl w)]) (st' := [.inl 1, .inl w]) rfl ?_
      refine jw_W_ic rfl (by unfold jw_rg; omega) (by unfold jw_rg; omega) (fun hc14 => ?_) (fun hc14 => ?_)
      · have hc14 : w < 1 := hc14
        refine jw_W_n 1 (i' := 50) (ls' := [some (.inr (.inr 33)), some (.inl (σ 34 0)), some (.inl v), some (.inl (σ3 34 0)), some (.inl w)]) (st' := [.inr (.inr 33)]) rfl ?_
        refine jw_W_gf rfl rfl rfl ?_
        show jw_W (js_S n) _ md_85 51 [some (.inr (.inr 33)), some (.inl (σ 34 0)), some (.inl v), some (.inl (σ3 34 0)), some (.inl w)] [.inr (.inr 34)] σ5 _
        refine jw_W_n 2 (i' := 53) (ls' := [some (.inr (.inr 33)), some (.inl (σ 34 0)), some (.inl v), some (.inl (σ3 34 0)), some (.inl w)]) (st' := [.inl (σ3 34 0), .inl 3, .inr (.inr 34)]) rfl ?_
        refine jw_W_call (as := [.inr (.inr 34), .inl 3, .inl (σ3 34 0)]) (rest := []) rfl rfl rfl rfl (Nat.le_of_ble_eq_true rfl) (.inr rfl) (jk_failX hX5 (by omega) (by omega)) (by omega) ?_ rfl
        rintro r1 σ6 ⟨rfl, hE6, h60, h62⟩
        rename jw_H => σ6
        have hto6 := hE6.1.2.1
        show jw_W (js_S n) _ md_85 54 [some (.inr (.inr 33)), some (.inl (σ 34 0)), some (.inl v), some (.inl (σ3 34 0)), some (.inl w)] [] σ6 _
        refine jw_W_n 1 (i' := 55) (ls' := [some (.inr (.inr 33)), some (.inl (σ 34 0)), some (.inl v), some (.inl (σ3 34 0)), some (.inl w)]) (st' := [.inr (.inr 33)]) rfl ?_
        refine jw_W_gf rfl rfl rfl ?_
        show jw_W (js_S n) _ md_85 56 [some (.inr (.inr 33)), some (.inl (σ 34 0)), some (.inl v), some (.inl (σ3 34 0)), some (.inl w)] [.inr (.inr ((σ6 33 2).toNat))] σ6 _
        rw [(show (σ6 33 2).toNat = o from hto6)]
        refine jw_W_gf rfl hpo.2.1 rfl ?_
        show jw_W (js_S n) _ md_85 57 [some (.inr (.inr 33)), some (.inl (σ 34 0)), some (.inl v), some (.inl (σ3 34 0)), some (.inl w)] [.inr (.inr (o + 5))] σ6 _
        refine jw_W_n 2 (i' := 59) (ls' := [some (.inr (.inr 33)), some (.inl (σ 34 0)), some (.inl v), some (.inl (σ3 34 0)), some (.inl w)]) (st' := [.inl w, .inl v, .inr (.inr (o + 5))]) rfl ?_
        refine jw_W_is rfl (by omega) hpo.2.2.2.2.2.2 (by omega) (by omega) (by omega) ?_
        refine jw_W_re rfl ?_
        have k6 := jk_XD_row hE6.1 (w := o + 5) (by omega) v w
        exact ⟨rfl, k6.1, jk_D_tr hD5 (jk_D_tr hE6.2.1 k6.2), jk_box_end hX hrl hE2 hQ2 hv3 ⟨hE3, h32⟩ ⟨hE4, h42⟩ ⟨hE5, h50, h52⟩ (.inr ⟨by omega, hE6, h62⟩)⟩
      · have hc14 : ¬ (w < 1) := hc14
        refine jw_W_n 2 (i' := 48) (ls' := [some (.inr (.inr 33)), some (.inl (σ 34 0)), some (.inl v), some (.inl (σ3 34 0)), some (.inl w)]) (st' := [.inl 9, .inl w]) rfl ?_
        refine jw_W_ic rfl (by unfold jw_rg; omega) (by unfold jw_rg; omega) (fun hc15 => ?_) (fun hc15 => ?_)
        · have hc15 : w ≤ 9 := hc15
          refine jw_W_n 1 (i' := 55) (ls' := [some (.inr (.inr 33)), some (.inl (σ 34 0)), some (.inl v), some (.inl (σ3 34 0)), some (.inl w)]) (st' := [.inr (.inr 33)]) rfl ?_
          refine jw_W_gf rfl rfl rfl ?_
          show jw_W (js_S n) _ md_85 56 [some (.inr (.inr 33)), some (.inl (σ 34 0)), some (.inl v), some (.inl (σ3 34 0)), some (.inl w)] [.inr (.inr ((σ5 33 2).toNat))] σ5 _
          rw [(show (σ5 33 2).toNat = o from hto6)]
          refine jw_W_gf rfl hpo.2.1 rfl ?_
          show jw_W (js_S n) _ md_85 57 [some (.inr (.inr 33)), some (.inl (σ 34 0)), some (.inl v), some (.inl (σ3 34 0)), some (.inl w)] [.inr (.inr (o + 5))] σ5 _
          refine jw_W_n 2 (i' := 59) (ls' := [some (.inr (.inr 33)), some (.inl (σ 34 0)), some (.inl v), some (.inl (σ3 34 0)), some (.inl w)]) (st' := [.inl w, .inl v, .inr (.inr (o + 5))]) rfl ?_
          refine jw_W_is rfl (by omega) hpo.2.2.2.2.2.2 (by omega) (by omega) (by omega) ?_
          refine jw_W_re rfl ?_
          have k6 := jk_XD_row hX5 (w := o + 5) (by omega) v w
          exact ⟨rfl, k6.1, jk_D_tr hD5 k6.2, jk_box_end hX hrl hE2 hQ2 hv3 ⟨hE3, h32⟩ ⟨hE4, h42⟩ ⟨hE5, h50, h52⟩ (.inl ⟨by omega, rfl⟩)⟩
        · have hc15 : ¬ (w ≤ 9) := hc15
          refine jw_W_n 1 (i' := 50) (ls' := [some (.inr (.inr 33)), some (.inl (σ 34 0)), some (.inl v), some (.inl (σ3 34 0)), some (.inl w)]) (st' := [.inr (.inr 33)]) rfl ?_
          refine jw_W_gf rfl rfl rfl ?_
          show jw_W (js_S n) _ md_85 51 [some (.inr (.inr 33)), some (.inl (σ 34 0)), some (.inl v), some (.inl (σ3 34 0)), some (.inl w)] [.inr (.inr 34)] σ5 _
          refine jw_W_n 2 (i' := 53) (ls' := [some (.inr (.inr 33)), some (.inl (σ 34 0)), some (.inl v), some (.inl (σ3 34 0)), some (.inl w)]) (st' := [.inl (σ3 34 0), .inl 3, .inr (.inr 34)]) rfl ?_
          refine jw_W_call (as := [.inr (.inr 34), .inl 3, .inl (σ3 34 0)]) (rest := []) rfl rfl rfl rfl (Nat.le_of_ble_eq_true rfl) (.inr rfl) (jk_failX hX5 (by omega) (by omega)) (by omega) ?_ rfl
          rintro r1 σ6 ⟨rfl, hE6, h60, h62⟩
          rename jw_H => σ6
          have hto6 := hE6.1.2.1
          show jw_W (js_S n) _ md_85 54 [some (.inr (.inr 33)), some (.inl (σ 34 0)), some (.inl v), some (.inl (σ3 34 0)), some (.inl w)] [] σ6 _
          refine jw_W_n 1 (i' := 55) (ls' := [some (.inr (.inr 33)), some (.inl (σ 34 0)), some (.inl v), some (.inl (σ3 34 0)), some (.inl w)]) (st' := [.inr (.inr 33)]) rfl ?_
          refine jw_W_gf rfl rfl rfl ?_
          show jw_W (js_S n) _ md_85 56 [some (.inr (.inr 33)), some (.inl (σ 34 0)), some (.inl v), some (.inl (σ3 34 0)), some (.inl w)] [.inr (.inr ((σ6 33 2).toNat))] σ6 _
          rw [(show (σ6 33 2).toNat = o from hto6)]
          refine jw_W_gf rfl hpo.2.1 rfl ?_
          show jw_W (js_S n) _ md_85 57 [some (.inr (.inr 33)), some (.inl (σ 34 0)), some (.inl v), some (.inl (σ3 34 0)), some (.inl w)] [.inr (.inr (o + 5))] σ6 _
          refine jw_W_n 2 (i' := 59) (ls' := [some (.inr (.inr 33)), some (.inl (σ 34 0)), some (.inl v), some (.inl (σ3 34 0)), some (.inl w)]) (st' := [.inl w, .inl v, .inr (.inr (o + 5))]) rfl ?_
          refine jw_W_is rfl (by omega) hpo.2.2.2.2.2.2 (by omega) (by omega) (by omega) ?_
          refine jw_W_re rfl ?_
          have k6 := jk_XD_row hE6.1 (w := o + 5) (by omega) v w
          exact ⟨rfl, k6.1, jk_D_tr hD5 (jk_D_tr hE6.2.1 k6.2), jk_box_end hX hrl hE2 hQ2 hv3 ⟨hE3, h32⟩ ⟨hE4, h42⟩ ⟨hE5, h50, h52⟩ (.inr ⟨by omega, hE6, h62⟩)⟩

/-! ===== the lines, the reference: box, of, a line ===== -/
theorem jk_box9 : ∀ m : Fin 8, ∀ v : Fin 3, (jw_and ((m.val : Nat) : Int) (jw_shl 1 ((v.val : Nat) : Int)) ≠ 0 ↔ jb_in ((m.val : Nat) : Int) v.val) := by decide +kernel
theorem jk_boxin {x v : Int} (hx : 0 ≤ x ∧ x ≤ 7) (hv : 0 ≤ v ∧ v < 3) : jw_and x (jw_shl 1 v) ≠ 0 ↔ jb_in x v.toNat := by
  obtain ⟨k, rfl⟩ : ∃ k : Nat, x = k := ⟨x.toNat, by omega⟩
  obtain ⟨l, rfl⟩ : ∃ l : Nat, v = l := ⟨v.toNat, by omega⟩
  exact jk_box9 ⟨k, by omega⟩ ⟨l, by omega⟩
theorem jk_boxR_end {b : Int → Int} {m : Int} {σ σ4 σ5 s : jw_H} (hl : jk_ml σ s) (hm : jk_mx b m σ) (h1 : jk_let (jk_h b m (s 0 1))) (h2 : jk_h b m (s 0 1) - 120 < s 0 2) (h3 : jw_and (s 0 5) (jw_shl 1 (jk_h b m (s 0 1) - 120)) = 0) (h4 : jk_h b m (s 0 1 + 1) = 60) (h5 : (jk_nu b m (s 0 1 + 2)).1 = 0) (h6 : 1 ≤ (jk_nu b m (s 0 1 + 2)).2.1 ∧ (jk_nu b m (s 0 1 + 2)).2.1 ≤ 9) (f4 : jk_fm σ σ4) (c4 : ∀ c, c ≠ 103 → σ4 c = σ c) (j4 : ∀ j, j ≠ 8 → j ≠ 10 → j ≠ 11 → j ≠ 37 → σ4 103 j = σ 103 j) (e37 : σ4 103 37 = jw_or (s 0 5) (jw_shl 1 (jk_h b m (s 0 1) - 120))) (hv : σ4 103 11 = (jk_nu b m (s 0 1 + 2)).2.1) (hp : σ4 103 8 = (jk_nu b m (s 0 1 + 2)).2.2) (e5 : σ5 = jw_up σ4 123 (jk_h b m (s 0 1) - 120) (σ4 103 11)) : jk_mp b m σ (jk_pbx b m s (s 0 1)) (some (.inl 1)) σ5 := by
  obtain ⟨ht, em, h8, h34, h35, h36, h37⟩ := hm
  obtain ⟨l0, l8, l34, l35, l36, l37, lW, lK, lB⟩ := hl
  have hgt := jk_nu_gt (by omega) h5
  have hlu := h1
  unfold jk_let at hlu
  have hb8 := jk_box8 (x := s 0 5) (v := jk_h b m (s 0 1) - 120) (by omega) (by omega)
  have f5 : jk_fm σ σ5 := by rw [e5]; exact jk_fm_up f4 (by omega)
  have c5 : ∀ c, c ≠ 103 → c ≠ 123 → σ5 c = σ c := fun c d1 d2 => by rw [e5, jw_up_out _ _ _ d2]; exact c4 c d1
  have j5 : ∀ j, j ≠ 8 → j ≠ 10 → j ≠ 11 → j ≠ 37 → σ5 103 j = σ 103 j := fun j d1 d2 d3 d4 => by rw [e5, jw_up_out _ _ _ (by omega)]; exact j4 j d1 d2 d3 d4
  have o34 := j5 34 (by omega) (by omega) (by omega) (by omega)
  have o35 := j5 35 (by omega) (by omega) (by omega) (by omega)
  have o36 := j5 36 (by omega) (by omega) (by omega) (by omega)
  have o37 : σ5 103 37 = jw_or (s 0 5) (jw_shl 1 (jk_h b m (s 0 1) - 120)) := by rw [e5, jw_up_out _ _ _ (by omega)]; exact e37
  have o8 : σ5 103 8 = (jk_nu b m (s 0 1 + 2)).2.2 := by rw [e5, jw_up_out _ _ _ (by omega)]; exact hp
  rw [jk_pbx_7 h1 h2 h3 h4 h5 h6]
  refine ⟨f5, .inr ⟨rfl, ⟨rfl, o8, o34.trans l34, o35.trans l35, o36.trans l36, o37, ?_, ?_, ?_⟩, jk_tr_fm ht f5 (by omega), (jk_fm9 f5).trans em, by omega, by omega, by omega, by omega, by omega⟩⟩
  · intro j j0 j1
    rw [c5 121 (by omega) (by omega)]
    exact lW j j0 j1
  · intro k k0 k1
    rw [c5 122 (by omega) (by omega)]
    exact lK k k0 k1
  · intro j j0 j1
    show _ = if j = jk_h b m (s 0 1) - 120 then _ else _
    by_cases hj : j = jk_h b m (s 0 1) - 120
    · rw [if_pos hj, hj, e5, jw_up_eq, hv]
    · rw [if_neg hj, e5, jw_up_ne _ (by omega), c4 123 (by omega)]
      exact lB j j0 j1
theorem jk_readsBox {n : Nat} {σ : jw_H} {b : Int → Int} {m : Int} {s : jw_H} (hm : jk_mx b m σ) (hl : jk_ml σ s)  : jw_T (js_S n) 4 221 [.inr (.inr 103)] σ (fun r σ' => jk_mp b m σ (jk_pbx b m s (s 0 1)) r σ') := by
  refine jw_T_of (D := 3) (M := mm_221) rfl (Nat.le_of_ble_eq_true rfl) (ls0 := [some (.inr (.inr 103)), none, none]) rfl ?_ (by rintro _ _ ⟨-, ⟨rfl, -⟩ | ⟨rfl, -⟩⟩ <;> rfl)
  have hm0 := hm
  obtain ⟨ht, em, h8, h34, h35, h36, h37⟩ := hm
  have hl0 := hl
  obtain ⟨l0, l8, l34, l35, l36, l37, lW, lK, lB⟩ := hl
  refine jw_W_n 1 (i' := 1) (ls' := [some (.inr (.inr 103)), none, none]) (st' := [.inr (.inr 103)]) rfl ?_
  refine jw_W_call (as := [.inr (.inr 103)]) (rest := []) rfl rfl rfl rfl (Nat.le_of_ble_eq_true rfl) (.inr rfl) (jk_readsQ ht (by omega)) (by omega) ?_ rfl
  rintro r1 σ1 (⟨rfl, hle, hs⟩ | ⟨rfl, hle, hlt, hs⟩ | ⟨rfl, hle, hlt, hs⟩)
  · rename jw_H => σx
    rw [em, l8] at hle
    show jw_W (js_S n) _ md_221 2 [some (.inr (.inr 103)), none, none] [.inl 0] σx _
    refine jw_W_if rfl (by unfold jw_rg; omega) (fun hc1 => ?_) (fun hc1 => ?_)
    · exact absurd hc1 (show ¬ ((0 : Int) ≠ 0) by omega)
    · clear hc1
      refine jw_W_n 1 (i' := 4) (ls' := [some (.inr (.inr 103)), none, none]) (st' := [.inl 0]) rfl ?_
      refine jw_W_ir rfl ?_
      rw [jk_pbx_1 hle]
      exact jk_mp_bad (by rw [hs]; exact jk_fm_up (jk_fm_rf σ) (by omega)) (by omega) (by rw [hs, jw_up_eq, l8])
  · rename jw_H => σy
    rw [em, l8] at hle hlt
    rw [l34] at hlt
    show jw_W (js_S n) _ md_221 2 [some (.inr (.inr 103)), none, none] [.inl 0] σy _
    refine jw_W_if rfl (by unfold jw_rg; omega) (fun hc2 => ?_) (fun hc2 => ?_)
    · exact absurd hc2 (show ¬ ((0 : Int) ≠ 0) by omega)
    · clear hc2
      refine jw_W_n 1 (i' := 4) (ls' := [some (.inr (.inr 103)), none, none]) (st' := [.inl 0]) rfl ?_
      refine jw_W_ir rfl ?_
      rw [jk_pbx_2 hle (by omega)]
      exact jk_mp_bad (by rw [hs]; exact jk_fm_up (jk_fm_rf σ) (by omega)) (by omega) (by rw [hs, jw_up_eq, l8])
  · rename jw_H => σ1
    rw [em, l8] at hle hlt
    rw [l34] at hlt
    have hlu := hle
    unfold jk_let at hlu
    rw [em, l8] at hs
    have e11 : σ1 103 11 = jk_h b m (s 0 1) - 120 := by rw [hs, jw_up_eq]
    have j1 : ∀ j, j ≠ 11 → σ1 103 j = σ 103 j := fun j hj => by rw [hs, jw_up_ne _ (by omega)]
    have c1 : ∀ c, c ≠ 103 → σ1 c = σ c := fun c hc => by rw [hs, jw_up_out _ _ _ hc]
    have f1 : jk_fm σ σ1 := by rw [hs]; exact jk_fm_up (jk_fm_rf σ) (by omega)
    have e37 := (j1 37 (by omega)).trans l37
    have e8 := (j1 8 (by omega)).trans l8
    have hbi := jk_boxin (x := s 0 5) (v := (jk_h b m (s 0 1) - 120)) (by omega) (by omega)
    show jw_W (js_S n) _ md_221 2 [some (.inr (.inr 103)), none, none] [.inl 1] σ1 _
    refine jw_W_if rfl (by unfold jw_rg; omega) (fun hc3 => ?_) (fun hc3 => ?_)
    · clear hc3
      refine jw_W_n 1 (i' := 6) (ls' := [some (.inr (.inr 103)), none, none]) (st' := [.inr (.inr 103)]) rfl ?_
      refine jw_W_gf rfl rfl rfl ?_
      show jw_W (js_S n) _ md_221 7 [some (.inr (.inr 103)), none, none] [.inl (σ1 103 11)] σ1 _
      refine jw_W_n 2 (i' := 9) (ls' := [some (.inr (.inr 103)), some (.inl (σ1 103 11)), none]) (st' := [.inr (.inr 103)]) rfl ?_
      refine jw_W_gf rfl rfl rfl ?_
      show jw_W (js_S n) _ md_221 10 [some (.inr (.inr 103)), some (.inl (σ1 103 11)), none] [.inl (σ1 103 37)] σ1 _
      refine jw_W_n 1 (i' := 11) (ls' := [some (.inr (.inr 103)), some (.inl (σ1 103 11)), none]) (st' := [.inl (σ1 103 11), .inl (σ1 103 37)]) rfl ?_
      refine jw_W_call (as := [.inl (σ1 103 37), .inl (σ1 103 11)]) (rest := []) rfl rfl rfl rfl (Nat.le_of_ble_eq_true rfl) (.inl rfl) (jm_has (by omega) (by omega) (by omega) (by omega)) (by omega) ?_ rfl
      rintro r1 σz (⟨rfl, hs6, hin⟩ | ⟨rfl, hs6, hin⟩)
      · rw [hs6]
        rw [e37, e11] at hin
        show jw_W (js_S n) _ md_221 12 [some (.inr (.inr 103)), some (.inl (σ1 103 11)), none] [.inl 1] σ1 _
        refine jw_W_if rfl (by unfold jw_rg; omega) (fun hc4 => ?_) (fun hc4 => ?_)
        · exact absurd hc4 (show ¬ ((1 : Int) = 0) by omega)
        · clear hc4
          refine jw_W_n 3 (i' := 16) (ls' := [some (.inr (.inr 103)), some (.inl (σ1 103 11)), none]) (st' := [.inr (.inr 103), .inl 6, .inr (.inr 103)]) rfl ?_
          refine jw_W_gf rfl rfl rfl ?_
          show jw_W (js_S n) _ md_221 17 [some (.inr (.inr 103)), some (.inl (σ1 103 11)), none] [.inl (σ1 103 8), .inl 6, .inr (.inr 103)] σ1 _
          refine jw_W_call (as := [.inr (.inr 103), .inl 6, .inl (σ1 103 8)]) (rest := []) rfl rfl rfl rfl (Nat.le_of_ble_eq_true rfl) (.inr rfl) (jk_wrongAt (by omega) (by omega)) (by omega) ?_ rfl
          rintro r1 σz ⟨rfl, hsw⟩
          rename jw_H => σw6
          show jw_W (js_S n) _ md_221 18 [some (.inr (.inr 103)), some (.inl (σ1 103 11)), none] [.inl 0] σw6 _
          refine jw_W_ir rfl ?_
          rw [jk_pbx_3 hle hlt (hbi.mpr hin)]
          exact jk_mp_bad (by rw [hsw]; exact jk_fm_up f1 (by omega)) (by omega) (by rw [hsw, jw_up_eq, e8])
      · rw [hs6]
        rw [e37, e11] at hin
        show jw_W (js_S n) _ md_221 12 [some (.inr (.inr 103)), some (.inl (σ1 103 11)), none] [.inl 0] σ1 _
        refine jw_W_if rfl (by unfold jw_rg; omega) (fun hc5 => ?_) (fun hc5 => ?_)
        · clear hc5
          refine jw_W_n 2 (i' := 21) (ls' := [some (.inr (.inr 103)), some (.inl (σ1 103 11)), none]) (st' := [.inr (.inr 103), .inr (.inr 103)]) rfl ?_
          refine jw_W_gf rfl rfl rfl ?_
          show jw_W (js_S n) _ md_221 22 [some (.inr (.inr 103)), some (.inl (σ1 103 11)), none] [.inl (σ1 103 37), .inr (.inr 103)] σ1 _
          refine jw_W_n 4 (i' := 26) (ls' := [some (.inr (.inr 103)), some (.inl (σ1 103 11)), none]) (st' := [.inl (jw_or (σ1 103 37) (jw_shl 1 (σ1 103 11))), .inr (.inr 103)]) rfl ?_
          refine jw_W_pf (a := jw_or (σ1 103 37) (jw_shl 1 (σ1 103 11))) rfl (by omega) rfl rfl rfl rfl rfl ?_
          refine jw_W_n 2 (i' := 29) (ls' := [some (.inr (.inr 103)), some (.inl (σ1 103 11)), none]) (st' := [.inr (.inr 103), .inr (.inr 103)]) rfl ?_
          refine jw_W_gf rfl rfl rfl ?_
          show jw_W (js_S n) _ md_221 30 [some (.inr (.inr 103)), some (.inl (σ1 103 11)), none] [.inl (σ1 103 8), .inr (.inr 103)] ((jw_up σ1 103 37 (jw_or (σ1 103 37) (jw_shl 1 (σ1 103 11))))) _
          refine jw_W_n 2 (i' := 32) (ls' := [some (.inr (.inr 103)), some (.inl (σ1 103 11)), none]) (st' := [.inl (σ1 103 8 + 1), .inr (.inr 103)]) rfl ?_
          refine jw_W_pf (a := σ1 103 8 + 1) rfl (by omega) rfl rfl rfl rfl rfl ?_
          obtain ⟨σ2, hs2⟩ : ∃ τ : jw_H, τ = jw_up (jw_up σ1 103 37 (jw_or (σ1 103 37) (jw_shl 1 (σ1 103 11)))) 103 8 (σ1 103 8 + 1) := ⟨_, rfl⟩
          show jw_W (js_S n) _ _ _ _ _ (jw_up (jw_up σ1 103 37 (jw_or (σ1 103 37) (jw_shl 1 (σ1 103 11)))) 103 8 (σ1 103 8 + 1)) _
          rw [← hs2]
          have h20 : jw_and (s 0 5) (jw_shl 1 (jk_h b m (s 0 1) - 120)) = 0 := Classical.byContradiction (fun w => hin (hbi.mp w))
          have e28 : σ2 103 8 = s 0 1 + 1 := by rw [hs2, jw_up_eq]; omega
          have e237 : σ2 103 37 = jw_or (s 0 5) (jw_shl 1 (jk_h b m (s 0 1) - 120)) := by rw [hs2, jw_up_ne _ (by omega)]; refine (jw_up_eq _ _ _ _).trans ?_; rw [e37, e11]
          have j2 : ∀ j, j ≠ 8 → j ≠ 11 → j ≠ 37 → σ2 103 j = σ 103 j := fun j d1 d2 d3 => by rw [hs2, jw_up_ne _ (by omega), jw_up_ne _ (by omega)]; exact j1 j d2
          have c2 : ∀ c, c ≠ 103 → σ2 c = σ c := fun c hc => by rw [hs2, jw_up_out _ _ _ hc, jw_up_out _ _ _ hc]; exact c1 c hc
          have f2 : jk_fm σ σ2 := by rw [hs2]; exact jk_fm_up (jk_fm_up f1 (by omega)) (by omega)
          have hz := jk_h_lt (b := b) (m := m) (i := s 0 1) (by omega)
          have ht2 : jk_tr σ2 b := jk_tr_fm ht f2 (by omega)
          have em2 : σ2 103 9 = m := (jk_fm9 f2).trans em
          refine jw_W_n 2 (i' := 35) (ls' := [some (.inr (.inr 103)), some (.inl (σ1 103 11)), none]) (st' := [.inl 60, .inr (.inr 103)]) rfl ?_
          refine jw_W_call (as := [.inr (.inr 103), .inl 60]) (rest := []) rfl rfl rfl rfl (Nat.le_of_ble_eq_true rfl) (.inr rfl) (jk_takes ht2 (x := 60) (by unfold jw_rg; omega)) (by omega) ?_ rfl
          rintro r1 σ3 (⟨rfl, h60, hs3⟩ | ⟨rfl, h60, hs3⟩)
          · rename jw_H => σ3
            rw [em2, e28] at h60
            rw [show s 0 1 + 1 = s 0 1 + 1 from rfl] at h60
            have e38 : σ3 103 8 = s 0 1 + 2 := by rw [hs3, jw_up_eq]; omega
            have f3 : jk_fm σ σ3 := by rw [hs3]; exact jk_fm_up f2 (by omega)
            have hz2 := jk_h_lt (b := b) (m := m) (i := s 0 1 + 1) (by omega)
            have ht3 : jk_tr σ3 b := jk_tr_fm ht f3 (by omega)
            have em3 : σ3 103 9 = m := (jk_fm9 f3).trans em
            show jw_W (js_S n) _ md_221 36 [some (.inr (.inr 103)), some (.inl (σ1 103 11)), none] [.inl 1] σ3 _
            refine jw_W_if rfl (by unfold jw_rg; omega) (fun hc6 => ?_) (fun hc6 => ?_)
            · clear hc6
              refine jw_W_n 1 (i' := 40) (ls' := [some (.inr (.inr 103)), some (.inl (σ1 103 11)), none]) (st' := [.inr (.inr 103)]) rfl ?_
              refine jw_W_gf rfl rfl rfl ?_
              show jw_W (js_S n) _ md_221 41 [some (.inr (.inr 103)), some (.inl (σ1 103 11)), none] [.inl (σ3 103 8)] σ3 _
              refine jw_W_n 2 (i' := 43) (ls' := [some (.inr (.inr 103)), some (.inl (σ1 103 11)), some (.inl (σ3 103 8))]) (st' := [.inr (.inr 103)]) rfl ?_
              refine jw_W_call (as := [.inr (.inr 103)]) (rest := []) rfl rfl rfl rfl (Nat.le_of_ble_eq_true rfl) (.inr rfl) (jk_readsTwoX ht3 em3 (by omega)) (by omega) ?_ rfl
              rintro r1 σ4 (⟨rfl, hN, hf8, hv⟩ | ⟨rfl, hN, hf8, hv, hp, hv9⟩)
              · rename jw_H => σv
                rw [e38] at hN hv
                show jw_W (js_S n) _ md_221 44 [some (.inr (.inr 103)), some (.inl (σ1 103 11)), some (.inl (σ3 103 8))] [.inl 0] σv _
                refine jw_W_if rfl (by unfold jw_rg; omega) (fun hc7 => ?_) (fun hc7 => ?_)
                · exact absurd hc7 (show ¬ ((0 : Int) ≠ 0) by omega)
                · clear hc7
                  refine jw_W_n 1 (i' := 46) (ls' := [some (.inr (.inr 103)), some (.inl (σ1 103 11)), some (.inl (σ3 103 8))]) (st' := [.inl 0]) rfl ?_
                  refine jw_W_ir rfl ?_
                  rw [jk_pbx_5 hle hlt h20 h60 hN]
                  exact jk_mp_bad (jk_fm_tr f3 (jk_fm_f8 hf8)) hN hv
              · rename jw_H => σ4
                rw [e38] at hN hv hp
                show jw_W (js_S n) _ md_221 44 [some (.inr (.inr 103)), some (.inl (σ1 103 11)), some (.inl (σ3 103 8))] [.inl 1] σ4 _
                refine jw_W_if rfl (by unfold jw_rg; omega) (fun hc8 => ?_) (fun hc8 => ?_)
                · clear hc8
                  refine jw_W_n 1 (i' := 48) (ls' := [some (.inr (.inr 103)), some (.inl (σ1 103 11)), some (.inl (σ3 103 8))]) (st' := [.inr (.inr 103)]) rfl ?_
                  refine jw_W_gf rfl rfl rfl ?_
                  show jw_W (js_S n) _ md_221 49 [some (.inr (.inr 103)), some (.inl (σ1 103 11)), some (.inl (σ3 103 8))] [.inl (σ4 103 11)] σ4 _
                  refine jw_W_n 2 (i' := 51) (ls' := [some (.inr (.inr 103)), some (.inl (σ1 103 11)), some (.inl (σ3 103 8))]) (st' := [.inl 9, .inl 1, .inl (σ4 103 11)]) rfl ?_
                  refine jw_W_call (as := [.inl (σ4 103 11), .inl 1, .inl 9]) (rest := []) rfl rfl rfl rfl (Nat.le_of_ble_eq_true rfl) (.inl rfl) (jm_in (by unfold jw_rg; omega) (by unfold jw_rg; omega) (by unfold jw_rg; omega)) (by omega) ?_ rfl
                  rintro r1 σz (⟨rfl, hs, q1⟩ | ⟨rfl, hs, q1⟩)
                  · rw [hs]
                    show jw_W (js_S n) _ md_221 52 [some (.inr (.inr 103)), some (.inl (σ1 103 11)), some (.inl (σ3 103 8))] [.inl 1] σ4 _
                    refine jw_W_if rfl (by unfold jw_rg; omega) (fun hc9 => ?_) (fun hc9 => ?_)
                    · clear hc9
                      refine jw_W_n 1 (i' := 59) (ls' := [some (.inr (.inr 103)), some (.inl (σ1 103 11)), some (.inl (σ3 103 8))]) (st' := [.inr (.inr 103)]) rfl ?_
                      refine jw_W_gf rfl rfl rfl ?_
                      show jw_W (js_S n) _ md_221 60 [some (.inr (.inr 103)), some (.inl (σ1 103 11)), some (.inl (σ3 103 8))] [.inr (.inr 123)] σ4 _
                      refine jw_W_n 2 (i' := 62) (ls' := [some (.inr (.inr 103)), some (.inl (σ1 103 11)), some (.inl (σ3 103 8))]) (st' := [.inr (.inr 103), .inl (σ1 103 11), .inr (.inr 123)]) rfl ?_
                      refine jw_W_gf rfl rfl rfl ?_
                      show jw_W (js_S n) _ md_221 63 [some (.inr (.inr 103)), some (.inl (σ1 103 11)), some (.inl (σ3 103 8))] [.inl (σ4 103 11), .inl (σ1 103 11), .inr (.inr 123)] σ4 _
                      refine jw_W_is rfl (by omega) rfl (by omega) (by omega) (by omega) ?_
                      refine jw_W_n 1 (i' := 65) (ls' := [some (.inr (.inr 103)), some (.inl (σ1 103 11)), some (.inl (σ3 103 8))]) (st' := [.inl 1]) rfl ?_
                      refine jw_W_ir rfl ?_
                      exact jk_boxR_end hl0 hm0 hle hlt h20 h60 hN (by omega) (jk_fm_tr f3 (jk_fm_f8 hf8)) (fun c hc => by rw [hf8.1 c hc, hs3, jw_up_out _ _ _ hc]; exact c2 c hc) (fun j d1 d2 d3 d4 => by rw [hf8.2 j d1 d2 d3, hs3, jw_up_ne _ (by omega)]; exact j2 j d1 d3 d4) (by rw [hf8.2 37 (by omega) (by omega) (by omega), hs3, jw_up_ne _ (by omega)]; exact e237) hv hp (by rw [e11])
                    · exact absurd hc9 (show ¬ ¬ ((1 : Int) ≠ 0) by omega)
                  · rw [hs]
                    show jw_W (js_S n) _ md_221 52 [some (.inr (.inr 103)), some (.inl (σ1 103 11)), some (.inl (σ3 103 8))] [.inl 0] σ4 _
                    refine jw_W_if rfl (by unfold jw_rg; omega) (fun hc10 => ?_) (fun hc10 => ?_)
                    · exact absurd hc10 (show ¬ ((0 : Int) ≠ 0) by omega)
                    · clear hc10
                      refine jw_W_n 3 (i' := 56) (ls' := [some (.inr (.inr 103)), some (.inl (σ1 103 11)), some (.inl (σ3 103 8))]) (st' := [.inl (σ3 103 8), .inl 3, .inr (.inr 103)]) rfl ?_
                      refine jw_W_call (as := [.inr (.inr 103), .inl 3, .inl (σ3 103 8)]) (rest := []) rfl rfl rfl rfl (Nat.le_of_ble_eq_true rfl) (.inr rfl) (jk_wrongAt (by omega) (by omega)) (by omega) ?_ rfl
                      rintro r1 σz ⟨rfl, hsw⟩
                      rename jw_H => σw3
                      show jw_W (js_S n) _ md_221 57 [some (.inr (.inr 103)), some (.inl (σ1 103 11)), some (.inl (σ3 103 8))] [.inl 0] σw3 _
                      refine jw_W_ir rfl ?_
                      rw [jk_pbx_6 hle hlt h20 h60 hN (by omega)]
                      exact jk_mp_bad (by rw [hsw]; exact jk_fm_up (jk_fm_tr f3 (jk_fm_f8 hf8)) (by omega)) (by omega) (by rw [hsw, jw_up_eq, e38])
                · exact absurd hc8 (show ¬ ¬ ((1 : Int) ≠ 0) by omega)
            · exact absurd hc6 (show ¬ ¬ ((1 : Int) ≠ 0) by omega)
          · rename jw_H => σt
            rw [em2, e28] at h60
            show jw_W (js_S n) _ md_221 36 [some (.inr (.inr 103)), some (.inl (σ1 103 11)), none] [.inl 0] σt _
            refine jw_W_if rfl (by unfold jw_rg; omega) (fun hc11 => ?_) (fun hc11 => ?_)
            · exact absurd hc11 (show ¬ ((0 : Int) ≠ 0) by omega)
            · clear hc11
              refine jw_W_n 1 (i' := 38) (ls' := [some (.inr (.inr 103)), some (.inl (σ1 103 11)), none]) (st' := [.inl 0]) rfl ?_
              refine jw_W_ir rfl ?_
              rw [jk_pbx_4 hle hlt h20 h60]
              exact jk_mp_bad (by rw [hs3]; exact jk_fm_up f2 (by omega)) (by omega) (by rw [hs3, jw_up_eq, e28])
        · exact absurd hc5 (show ¬ ¬ ((0 : Int) = 0) by omega)
    · exact absurd hc3 (show ¬ ¬ ((1 : Int) ≠ 0) by omega)

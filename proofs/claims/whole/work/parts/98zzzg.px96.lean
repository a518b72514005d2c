/-! ===== the class's lines: keep ===== -/
section JKK
variable {n o : Nat} {b : Int → Int} {m : Int} {σ σ1 σ2 σ3 σ4 s : jw_H} {k v kd x : Int}
theorem jk_keep_bad (hrl : jk_rl o σ s) (hR : jk_R n o b m σ (o + 2) (3 * k) 1 (jk_sm b m (σ o 0) (σ 34 0)) σ1) (hx : jk_h b m (σ1 34 0) ≠ 60 ∧ jk_h b m (σ1 34 0) ≠ 62) (h2 : jk_E n o b m σ1 σ2 ∧ (σ1 34 2 = 0 → σ2 34 2 = -1000 * 1 - σ1 34 0)) (hD : jk_D o σ2 σ4) : jk_rs o σ4 (jk_pk b m s (s 0 1)) := by
  obtain ⟨g0, g1, g2, g3, -⟩ := hrl
  obtain ⟨f1, f2⟩ := hR.2.2.2.2 g0
  have ha := hR.1.2.2.2.2.1
  rw [g2, g3] at f1 f2
  by_cases hS : (jk_sm b m (s 0 2) (s 0 1)).1 = 0
  · have f3 := (f2 hS).1
    have f4 := h2.2 (by rw [f1]; exact hS)
    rw [f3] at hx f4
    rw [jk_pk_2 hS (by omega)]
    exact jk_rs_bad (by rw [hD.2.2.1 (by omega), f4]) (by omega)
  · rw [jk_pk_1 hS]
    have e2 := h2.1.2.1.2.2.1 (by rw [f1]; exact hS)
    exact jk_rs_bad (by rw [hD.2.2.1 (by rw [e2, f1]; exact hS), e2, f1]) hS
theorem jk_keep_ok (hX : jk_X n o b m σ) (hrl : jk_rl o σ s) (hk : k = σ o 2) (hk4 : k < 4) (hR : jk_R n o b m σ (o + 2) (3 * k) 1 (jk_sm b m (σ o 0) (σ 34 0)) σ1) (hx : (jk_h b m (σ1 34 0) = 60 ∧ kd = 0) ∨ (jk_h b m (σ1 34 0) = 62 ∧ kd = 1)) (hs2 : σ2 = jw_up (jw_up σ1 (o + 4) k kd) 34 0 (σ1 34 0 + 1)) (h3 : jk_E n o b m σ2 σ3 ∧ (σ2 34 2 = 0 → σ3 34 2 = (jk_n2 b m (σ2 34 0)).1 ∧ ((jk_n2 b m (σ2 34 0)).1 = 0 → v = (jk_n2 b m (σ2 34 0)).2.1 ∧ σ3 34 0 = (jk_n2 b m (σ2 34 0)).2.2))) (h4 : jk_E n o b m (jw_up σ3 (o + 3) k v) σ4 ∧ σ4 34 0 = (jw_up σ3 (o + 3) k v) 34 0 ∧ ((¬ jk_dg (jk_h b m ((jw_up σ3 (o + 3) k v) 34 0)) ∧ σ4 34 2 = (jw_up σ3 (o + 3) k v) 34 2) ∨ (jk_dg (jk_h b m ((jw_up σ3 (o + 3) k v) 34 0)) ∧ ((jw_up σ3 (o + 3) k v) 34 2 = 0 → σ4 34 2 = -1000 * 2 - (jw_up σ3 (o + 3) k v) 34 0)))) : jk_rs o (jw_up σ4 o 2 (k + 1)) (jk_pk b m s (s 0 1)) := by
  have hpo := hX.1.1
  have hrl' := hrl
  obtain ⟨g0, g1, g2, g3, g4, g5, g6, g7, g8, g9, g10⟩ := hrl
  obtain ⟨f1, f2⟩ := hR.2.2.2.2 g0
  have h20 := hX.2.2.2.2.2.2.2.2.2.1
  have ha := hR.1.2.2.2.2.1
  have hb3 := h3.1.1.2.2.2.2.1
  rw [g2, g3] at f1 f2
  rw [jw_up_out σ3 _ _ (show 34 ≠ o + 3 by omega)] at h4
  have e20 : σ2 34 0 = σ1 34 0 + 1 := by rw [hs2, jw_up_eq]
  have e22 : σ2 34 2 = σ1 34 2 := by rw [hs2, jw_up_ne _ (by omega), jw_up_out _ _ _ (by omega)]
  have st3 := h3.1.2.1.2.2.1
  have st4 := h4.1.2.1.2.2.1
  rw [jw_up_out σ3 _ _ (show 34 ≠ o + 3 by omega)] at st4
  have ef : ∀ j, jw_up σ4 o 2 (k + 1) 34 j = σ4 34 j := fun j => by rw [jw_up_out _ _ _ (by omega)]
  by_cases hS : (jk_sm b m (s 0 2) (s 0 1)).1 = 0
  · have f3 := (f2 hS).1
    have e22z : σ2 34 2 = 0 := by rw [e22, f1]; exact hS
    rw [f3] at hx e20
    obtain ⟨n1, n2⟩ := h3.2 e22z
    rw [e20] at n1 n2
    by_cases hN : (jk_n2 b m ((jk_sm b m (s 0 2) (s 0 1)).2.1 + 1)).1 = 0
    · obtain ⟨n3, n4⟩ := n2 hN
      obtain ⟨r1, r2, r3⟩ := h4
      rw [n4] at r2 r3
      rcases r3 with ⟨r3, r4⟩ | ⟨r3, r4⟩
      · have hnu := jk_nu_3 r3
        rw [jk_pk_4 hS (by omega) (by rw [hnu]; exact hN), hnu]
        have hc : ∀ c, c ≠ 34 → c ≠ o + 2 → c ≠ o + 3 → c ≠ o + 4 → σ4 c = σ c := fun c c1 c2 c3 c4 => by
          rw [r1.2.2 c c1, jw_up_out _ _ _ c3, h3.1.2.2 c c1, hs2, jw_up_out _ _ _ c1, jw_up_out _ _ _ c4, hR.2.2.1 c c1 c2]
        have hc2 : σ4 (o + 2) = σ1 (o + 2) := by
          rw [r1.2.2 (o + 2) (by omega), jw_up_out _ _ _ (by omega), h3.1.2.2 (o + 2) (by omega), hs2, jw_up_out _ _ _ (by omega), jw_up_out _ _ _ (by omega)]
        have hc3 : ∀ j, σ4 (o + 3) j = if j = k then v else σ (o + 3) j := fun j => by
          rw [r1.2.2 (o + 3) (by omega)]
          by_cases hj : j = k
          · rw [if_pos hj, hj, jw_up_eq]
          · rw [if_neg hj, jw_up_ne _ (by omega), h3.1.2.2 (o + 3) (by omega), hs2, jw_up_out _ _ _ (by omega), jw_up_out _ _ _ (by omega), hR.2.2.1 (o + 3) (by omega) (by omega)]
        have hc4 : ∀ j, σ4 (o + 4) j = if j = k then kd else σ (o + 4) j := fun j => by
          rw [r1.2.2 (o + 4) (by omega), jw_up_out _ _ _ (by omega), h3.1.2.2 (o + 4) (by omega), hs2, jw_up_out _ _ _ (by omega)]
          by_cases hj : j = k
          · rw [if_pos hj, hj, jw_up_eq]
          · rw [if_neg hj, jw_up_ne _ (by omega), hR.2.2.1 (o + 4) (by omega) (by omega)]
        have hco : ∀ c, c ≠ o → ∀ j, jw_up σ4 o 2 (k + 1) c j = σ4 c j := fun c hc j => by rw [jw_up_out _ _ _ hc]
        refine ⟨by rw [ef, r4, n1]; exact hN, fun _ => ⟨by rw [ef, r4, n1]; exact hN, rfl, ?_, ?_, ?_, ?_, ?_, ?_, ?_, ?_, ?_⟩⟩
        · rw [ef, r2]
          rfl
        · rw [jw_up_ne _ (by omega), hc o (by omega) (by omega) (by omega) (by omega)]
          exact g3
        · rw [jw_up_ne _ (by omega), hc o (by omega) (by omega) (by omega) (by omega)]
          exact g4
        · rw [jw_up_eq]
          show k + 1 = s 0 4 + 1
          omega
        · rw [hco 33 (by omega), hc 33 (by omega) (by omega) (by omega) (by omega)]
          exact g6
        · intro j j0 j1
          rw [hco (o + 1) (by omega), hc (o + 1) (by omega) (by omega) (by omega) (by omega)]
          exact g7 j j0 j1
        · intro j j0 j1
          have j2 : j < 3 * (s 0 4 + 1) := j1
          show _ = if j < 3 * s 0 4 then s 2 j else (jk_sm b m (s 0 2) (s 0 1)).2.2 (j - 3 * s 0 4)
          rw [hco (o + 2) (by omega), hc2]
          by_cases hj : j < 3 * s 0 4
          · rw [if_pos hj, hR.2.2.2.1 j (by omega)]
            exact g8 j j0 hj
          · have hrow := (f2 hS).2 (j - 3 * s 0 4) (by omega) (by omega)
            rw [if_neg hj, ← Int.one_mul ((jk_sm b m (s 0 2) (s 0 1)).2.2 (j - 3 * s 0 4)), ← hrow]
            congr 1
            omega
        · intro j j0 j1
          have j2 : j < s 0 4 + 1 := j1
          rw [hco (o + 3) (by omega), hco (o + 4) (by omega), hc3, hc4]
          show _ = (if j = s 0 4 then (jk_n2 b m ((jk_sm b m (s 0 2) (s 0 1)).2.1 + 1)).2.1 else s 3 j) ∧ _ = (if j = s 0 4 then jk_h b m (jk_sm b m (s 0 2) (s 0 1)).2.1 / 2 - 30 else s 4 j)
          by_cases hj : j = s 0 4
          · rw [if_pos hj, if_pos hj, if_pos (by omega), if_pos (by omega)]
            exact ⟨n3, by omega⟩
          · rw [if_neg hj, if_neg hj, if_neg (by omega), if_neg (by omega)]
            exact g9 j j0 (by omega)
        · intro j j0 j1
          rw [hco (o + 5) (by omega), hc (o + 5) (by omega) (by omega) (by omega) (by omega)]
          exact g10 j j0 j1
      · rw [jk_pk_3 hS (by omega) (by rw [jk_nu_2 hN r3]; show -1000 * 2 - _ ≠ 0; omega), jk_nu_2 hN r3]
        have f5 := r4 (by rw [n1]; exact hN)
        exact jk_rs_bad (by rw [ef, f5]) (by show -1000 * 2 - _ ≠ 0; omega)
    · rw [jk_pk_3 hS (by omega) (by rw [jk_nu_1 hN]; exact hN), jk_nu_1 hN]
      exact jk_rs_bad (by rw [ef, st4 (by rw [n1]; exact hN), n1]) hN
  · rw [jk_pk_1 hS]
    have e3 := st3 (by rw [e22, f1]; exact hS)
    have e4 := st4 (by rw [e3, e22, f1]; exact hS)
    exact jk_rs_bad (by rw [ef, e4, e3, e22, f1]) hS
end JKK
theorem jk_readKeep {n : Nat} {σ : jw_H} {o : Nat} {b : Int → Int} {m : Int} {s : jw_H} (hX : jk_X n o b m σ) (hrl : jk_rl o σ s) (hk4 : σ o 2 < 4)  : jw_T (js_S n) 5 84 [.inr (.inr 33)] σ (fun r σ' => r = none ∧ jk_X n o b m σ' ∧ jk_D o σ σ' ∧ jk_rs o σ' (jk_pk b m s (s 0 1))) := by
  refine jw_T_of (D := 4) (M := mm_84) rfl (Nat.le_of_ble_eq_true rfl) (ls0 := [some (.inr (.inr 33)), none, none]) rfl ?_ (by rintro _ _ ⟨rfl, -⟩; rfl)
  have hto := hX.2.1
  have hpo := hX.1
  have hp0 := hpo.1
  have hob : 15 ≤ o ∧ o ≤ 27 := by omega
  have h4 := hX.2.2.2.2.1
  have h5 := hX.2.2.2.2.2.1
  have ho2 := hX.2.2.2.2.2.2.2.2.2.1
  refine jw_W_n 1 (i' := 1) (ls' := [some (.inr (.inr 33)), none, none]) (st' := [.inr (.inr 33)]) rfl ?_
  refine jw_W_gf rfl rfl rfl ?_
  show jw_W (js_S n) _ md_84 2 [some (.inr (.inr 33)), none, none] [.inr (.inr ((σ 33 2).toNat))] σ _
  rw [hto]
  refine jw_W_gf rfl hpo.2.1 rfl ?_
  show jw_W (js_S n) _ md_84 3 [some (.inr (.inr 33)), none, none] [.inl (σ o 2)] σ _
  refine jw_W_n 3 (i' := 6) (ls' := [some (.inr (.inr 33)), some (.inl (σ o 2)), none]) (st' := [.inr (.inr 33), .inr (.inr 33)]) rfl ?_
  refine jw_W_gf rfl rfl rfl ?_
  show jw_W (js_S n) _ md_84 7 [some (.inr (.inr 33)), some (.inl (σ o 2)), none] [.inr (.inr ((σ 33 2).toNat)), .inr (.inr 33)] σ _
  rw [hto]
  refine jw_W_gf rfl hpo.2.1 rfl ?_
  show jw_W (js_S n) _ md_84 8 [some (.inr (.inr 33)), some (.inl (σ o 2)), none] [.inr (.inr (o + 2)), .inr (.inr 33)] σ _
  refine jw_W_n 4 (i' := 12) (ls' := [some (.inr (.inr 33)), some (.inl (σ o 2)), none]) (st' := [.inl 1, .inl (3 * (σ o 2)), .inr (.inr (o + 2)), .inr (.inr 33)]) rfl ?_
  refine jw_W_call (as := [.inr (.inr 33), .inr (.inr (o + 2)), .inl (3 * (σ o 2)), .inl 1]) (rest := []) rfl rfl rfl rfl (Nat.le_of_ble_eq_true rfl) (.inr rfl) (jk_readSum (w := o + 2) (L := 12) ⟨by omega, hpo.2.2.2.1⟩ (by omega) (a := 3 * σ o 2) (s := 1) (by omega) (by omega) hX) (by omega) ?_ rfl
  rintro r1 σ1 ⟨rfl, hR⟩
  rename jw_H => σ1
  have hX1 := hR.1
  have hto1 := hX1.2.1
  have ha1 := hX1.2.2.2.2.1
  have hh1 := jk_X_h hX1 ha1.1
  have eo1 : σ1 o 2 = σ o 2 := by rw [hR.2.2.1 o (by omega) (by omega)]
  show jw_W (js_S n) _ md_84 13 [some (.inr (.inr 33)), some (.inl (σ o 2)), none] [] σ1 _
  refine jw_W_n 1 (i' := 14) (ls' := [some (.inr (.inr 33)), some (.inl (σ o 2)), none]) (st' := [.inr (.inr 33)]) rfl ?_
  refine jw_W_gf rfl rfl rfl ?_
  show jw_W (js_S n) _ md_84 15 [some (.inr (.inr 33)), some (.inl (σ o 2)), none] [.inr (.inr 34)] σ1 _
  refine jw_W_call (as := [.inr (.inr 34)]) (rest := []) rfl rfl rfl rfl (Nat.le_of_ble_eq_true rfl) (.inr rfl) (jk_hereX hX1) (by omega) ?_ rfl
  rintro r1 σz ⟨rfl, hs⟩
  rw [hs]
  show jw_W (js_S n) _ md_84 16 [some (.inr (.inr 33)), some (.inl (σ o 2)), none] [.inl (jk_h b m (σ1 34 0))] σ1 _
  refine jw_W_n 3 (i' := 19) (ls' := [some (.inr (.inr 33)), some (.inl (σ o 2)), some (.inl (jk_h b m (σ1 34 0)))]) (st' := [.inl 60, .inl (jk_h b m (σ1 34 0))]) rfl ?_
  refine jw_W_ic rfl (by unfold jw_rg; omega) (by unfold jw_rg; omega) (fun hc1 => ?_) (fun hc1 => ?_)
  · have hc1 : (jk_h b m (σ1 34 0)) = 60 := hc1
    refine jw_W_n 1 (i' := 24) (ls' := [some (.inr (.inr 33)), some (.inl (σ o 2)), some (.inl (jk_h b m (σ1 34 0)))]) (st' := [.inr (.inr 33)]) rfl ?_
    refine jw_W_gf rfl rfl rfl ?_
    show jw_W (js_S n) _ md_84 25 [some (.inr (.inr 33)), some (.inl (σ o 2)), some (.inl (jk_h b m (σ1 34 0)))] [.inr (.inr ((σ1 33 2).toNat))] σ1 _
    rw [hto1]
    refine jw_W_gf rfl hpo.2.1 rfl ?_
    show jw_W (js_S n) _ md_84 26 [some (.inr (.inr 33)), some (.inl (σ o 2)), some (.inl (jk_h b m (σ1 34 0)))] [.inr (.inr (o + 4))] σ1 _
    refine jw_W_n 3 (i' := 29) (ls' := [some (.inr (.inr 33)), some (.inl (σ o 2)), some (.inl (jk_h b m (σ1 34 0)))]) (st' := [.inl 60, .inl (jk_h b m (σ1 34 0)), .inl (σ o 2), .inr (.inr (o + 4))]) rfl ?_
    refine jw_W_ic rfl (by unfold jw_rg; omega) (by unfold jw_rg; omega) (fun hc2 => ?_) (fun hc2 => ?_)
    · have hc2 : (jk_h b m (σ1 34 0)) ≠ 60 := hc2
      refine jw_W_n 1 (i' := 33) (ls' := [some (.inr (.inr 33)), some (.inl (σ o 2)), some (.inl (jk_h b m (σ1 34 0)))]) (st' := [.inl 1, .inl (σ o 2), .inr (.inr (o + 4))]) rfl ?_
      refine jw_W_is rfl (by omega) hpo.2.2.2.2.2.1 (by omega) (by omega) (by omega) ?_
      refine jw_W_n 1 (i' := 35) (ls' := [some (.inr (.inr 33)), some (.inl (σ o 2)), some (.inl (jk_h b m (σ1 34 0)))]) (st' := [.inr (.inr 33)]) rfl ?_
      refine jw_W_gf rfl rfl rfl ?_
      show jw_W (js_S n) _ md_84 36 [some (.inr (.inr 33)), some (.inl (σ o 2)), some (.inl (jk_h b m (σ1 34 0)))] [.inr (.inr 34)] ((jw_up σ1 (o + 4) (σ o 2) 1)) _
      refine jw_W_n 1 (i' := 37) (ls' := [some (.inr (.inr 33)), some (.inl (σ o 2)), some (.inl (jk_h b m (σ1 34 0)))]) (st' := [.inr (.inr 34), .inr (.inr 34)]) rfl ?_
      refine jw_W_gf rfl rfl rfl ?_
      show jw_W (js_S n) _ md_84 38 [some (.inr (.inr 33)), some (.inl (σ o 2)), some (.inl (jk_h b m (σ1 34 0)))] [.inl ((jw_up σ1 (o + 4) (σ o 2) 1) 34 0), .inr (.inr 34)] ((jw_up σ1 (o + 4) (σ o 2) 1)) _
      rw [jw_up_out σ1 _ _ (show 34 ≠ o + 4 by omega)]
      refine jw_W_n 2 (i' := 40) (ls' := [some (.inr (.inr 33)), some (.inl (σ o 2)), some (.inl (jk_h b m (σ1 34 0)))]) (st' := [.inl (σ1 34 0 + 1), .inr (.inr 34)]) rfl ?_
      refine jw_W_pf (a := σ1 34 0 + 1) rfl (by omega) rfl rfl rfl rfl rfl ?_
      refine jw_W_n 1 (i' := 49) (ls' := [some (.inr (.inr 33)), some (.inl (σ o 2)), some (.inl (jk_h b m (σ1 34 0)))]) (st' := []) rfl ?_
      obtain ⟨σ2, hs2⟩ : ∃ s, s = jw_up (jw_up σ1 (o + 4) (σ o 2) 1) 34 0 (σ1 34 0 + 1) := ⟨_, rfl⟩
      show jw_W (js_S n) _ _ _ _ _ (jw_up (jw_up σ1 (o + 4) (σ o 2) 1) 34 0 (σ1 34 0 + 1)) _
      rw [← hs2]
      have k1 := jk_XD_row hX1 (w := o + 4) (by omega) (σ o 2) 1
      have k2 := jk_E_at k1.1 (by rw [jw_up_out _ _ _ (by omega)]; exact hh1.2.2 (by omega))
      rw [jw_up_out σ1 _ _ (show 34 ≠ o + 4 by omega)] at k2
      rw [← hs2] at k2
      have hX2 := k2.1
      have hD2 := jk_D_tr k1.2 k2.2.1
      have hto2 := hX2.2.1
      have eo2 : σ2 o 2 = σ o 2 := by rw [hs2, jw_up_out _ _ _ (by omega), jw_up_out _ _ _ (by omega)]; exact eo1
      refine jw_W_n 1 (i' := 50) (ls' := [some (.inr (.inr 33)), some (.inl (σ o 2)), some (.inl (jk_h b m (σ1 34 0)))]) (st' := [.inr (.inr 33)]) rfl ?_
      refine jw_W_gf rfl rfl rfl ?_
      show jw_W (js_S n) _ md_84 51 [some (.inr (.inr 33)), some (.inl (σ o 2)), some (.inl (jk_h b m (σ1 34 0)))] [.inr (.inr ((σ2 33 2).toNat))] σ2 _
      rw [hto2]
      refine jw_W_gf rfl hpo.2.1 rfl ?_
      show jw_W (js_S n) _ md_84 52 [some (.inr (.inr 33)), some (.inl (σ o 2)), some (.inl (jk_h b m (σ1 34 0)))] [.inr (.inr (o + 3))] σ2 _
      refine jw_W_n 2 (i' := 54) (ls' := [some (.inr (.inr 33)), some (.inl (σ o 2)), some (.inl (jk_h b m (σ1 34 0)))]) (st' := [.inr (.inr 33), .inl (σ o 2), .inr (.inr (o + 3))]) rfl ?_
      refine jw_W_gf rfl rfl rfl ?_
      show jw_W (js_S n) _ md_84 55 [some (.inr (.inr 33)), some (.inl (σ o 2)), some (.inl (jk_h b m (σ1 34 0)))] [.inr (.inr 34), .inl (σ o 2), .inr (.inr (o + 3))] σ2 _
      refine jw_W_n 1 (i' := 56) (ls' := [some (.inr (.inr 33)), some (.inl (σ o 2)), some (.inl (jk_h b m (σ1 34 0)))]) (st' := [.inl 2, .inr (.inr 34), .inl (σ o 2), .inr (.inr (o + 3))]) rfl ?_
      refine jw_W_call (as := [.inr (.inr 34), .inl 2]) (rest := [.inl (σ o 2), .inr (.inr (o + 3))]) rfl rfl rfl rfl (Nat.le_of_ble_eq_true rfl) (.inr rfl) (jk_numberX hX2) (by omega) ?_ rfl
      rintro r1 σ3 ⟨v, rfl, hv, hE3, h3⟩
      rename jw_H => σ3
      have hX3 := hE3.1
      have hto3 := hX3.2.1
      have k3 := jk_XD_row hX3 (w := o + 3) (by omega) (σ o 2) v
      have hto3x := k3.1.2.1
      show jw_W (js_S n) _ md_84 57 [some (.inr (.inr 33)), some (.inl (σ o 2)), some (.inl (jk_h b m (σ1 34 0)))] [.inl v, .inl (σ o 2), .inr (.inr (o + 3))] σ3 _
      refine jw_W_is rfl (by omega) hpo.2.2.2.2.1 (by omega) (by omega) (by omega) ?_
      refine jw_W_n 1 (i' := 59) (ls' := [some (.inr (.inr 33)), some (.inl (σ o 2)), some (.inl (jk_h b m (σ1 34 0)))]) (st' := [.inr (.inr 33)]) rfl ?_
      refine jw_W_gf rfl rfl rfl ?_
      show jw_W (js_S n) _ md_84 60 [some (.inr (.inr 33)), some (.inl (σ o 2)), some (.inl (jk_h b m (σ1 34 0)))] [.inr (.inr 34)] ((jw_up σ3 (o + 3) (σ o 2) v)) _
      refine jw_W_call (as := [.inr (.inr 34)]) (rest := []) rfl rfl rfl rfl (Nat.le_of_ble_eq_true rfl) (.inr rfl) (jk_refuseX k3.1) (by omega) ?_ rfl
      rintro r1 σ4 ⟨rfl, hE4, h40, h42⟩
      rename jw_H => σ4
      have hX4 := hE4.1
      have hto4 := hX4.2.1
      have hD4 := jk_D_tr hE3.2.1 (jk_D_tr k3.2 hE4.2.1)
      have eo4 : σ4 o 2 = σ o 2 := by rw [hE4.2.2 o (by omega), jw_up_out _ _ _ (by omega), hE3.2.2 o (by omega)]; exact eo2
      show jw_W (js_S n) _ md_84 61 [some (.inr (.inr 33)), some (.inl (σ o 2)), some (.inl (jk_h b m (σ1 34 0)))] [] σ4 _
      refine jw_W_n 1 (i' := 62) (ls' := [some (.inr (.inr 33)), some (.inl (σ o 2)), some (.inl (jk_h b m (σ1 34 0)))]) (st' := [.inr (.inr 33)]) rfl ?_
      refine jw_W_gf rfl rfl rfl ?_
      show jw_W (js_S n) _ md_84 63 [some (.inr (.inr 33)), some (.inl (σ o 2)), some (.inl (jk_h b m (σ1 34 0)))] [.inr (.inr ((σ4 33 2).toNat))] σ4 _
      rw [hto4]
      refine jw_W_n 1 (i' := 64) (ls' := [some (.inr (.inr 33)), some (.inl (σ o 2)), some (.inl (jk_h b m (σ1 34 0)))]) (st' := [.inr (.inr o), .inr (.inr o)]) rfl ?_
      refine jw_W_gf rfl hpo.2.1 rfl ?_
      show jw_W (js_S n) _ md_84 65 [some (.inr (.inr 33)), some (.inl (σ o 2)), some (.inl (jk_h b m (σ1 34 0)))] [.inl (σ4 o 2), .inr (.inr o)] σ4 _
      refine jw_W_n 2 (i' := 67) (ls' := [some (.inr (.inr 33)), some (.inl (σ o 2)), some (.inl (jk_h b m (σ1 34 0)))]) (st' := [.inl (σ4 o 2 + 1), .inr (.inr o)]) rfl ?_
      refine jw_W_pf (a := σ4 o 2 + 1) rfl (by omega) hpo.2.1 rfl rfl rfl rfl ?_
      refine jw_W_re rfl ?_
      have k5 := jk_XD_f hX4 (j := 2) (v := σ4 o 2 + 1) (by omega)
      have hDD := jk_D_tr (jk_D_tr hR.2.1 hD2) (jk_D_tr hD4 k5.2)
      exact ⟨rfl, k5.1, hDD, by rw [eo4]; exact jk_keep_ok hX hrl rfl hk4 hR (by omega) hs2 ⟨hE3, h3⟩ ⟨hE4, h40, h42⟩⟩
    · have hc2 : (jk_h b m (σ1 34 0)) = 60 := Classical.not_not.mp hc2
      refine jw_W_n 2 (i' := 33) (ls' := [some (.inr (.inr 33)), some (.inl (σ o 2)), some (.inl (jk_h b m (σ1 34 0)))]) (st' := [.inl 0, .inl (σ o 2), .inr (.inr (o + 4))]) rfl ?_
      refine jw_W_is rfl (by omega) hpo.2.2.2.2.2.1 (by omega) (by omega) (by omega) ?_
      refine jw_W_n 1 (i' := 35) (ls' := [some (.inr (.inr 33)), some (.inl (σ o 2)), some (.inl (jk_h b m (σ1 34 0)))]) (st' := [.inr (.inr 33)]) rfl ?_
      refine jw_W_gf rfl rfl rfl ?_
      show jw_W (js_S n) _ md_84 36 [some (.inr (.inr 33)), some (.inl (σ o 2)), some (.inl (jk_h b m (σ1 34 0)))] [.inr (.inr 34)] ((jw_up σ1 (o + 4) (σ o 2) 0)) _
      refine jw_W_n 1 (i' := 37) (ls' := [some (.inr (.inr 33)), some (.inl (σ o 2)), some (.inl (jk_h b m (σ1 34 0)))]) (st' := [.inr (.inr 34), .inr (.inr 34)]) rfl ?_
      refine jw_W_gf rfl rfl rfl ?_
      show jw_W (js_S n) _ md_84 38 [some (.inr (.inr 33)), some (.inl (σ o 2)), some (.inl (jk_h b m (σ1 34 0)))] [.inl ((jw_up σ1 (o + 4) (σ o 2) 0) 34 0), .inr (.inr 34)] ((jw_up σ1 (o + 4) (σ o 2) 0)) _
      rw [jw_up_out σ1 _ _ (show 34 ≠ o + 4 by omega)]
      refine jw_W_n 2 (i' := 40) (ls' := [some (.inr (.inr 33)), some (.inl (σ o 2)), some (.inl (jk_h b m (σ1 34 0)))]) (st' := [.inl (σ1 34 0 + 1), .inr (.inr 34)]) rfl ?_
      refine jw_W_pf (a := σ1 34 0 + 1) rfl (by omega) rfl rfl rfl rfl rfl ?_
      refine jw_W_n 1 (i' := 49) (ls' := [some (.inr (.inr 33)), some (.inl (σ o 2)), some (.inl (jk_h b m (σ1 34 0)))]) (st' := []) rfl ?_
      obtain ⟨σ2, hs2⟩ : ∃ s, s = jw_up (jw_up σ1 (o + 4) (σ o 2) 0) 34 0 (σ1 34 0 + 1) := ⟨_, rfl⟩
      show jw_W (js_S n) _ _ _ _ _ (jw_up (jw_up σ1 (o + 4) (σ o 2) 0) 34 0 (σ1 34 0 + 1)) _
      rw [← hs2]
      have k1 := jk_XD_row hX1 (w := o + 4) (by omega) (σ o 2) 0
      have k2 := jk_E_at k1.1 (by rw [jw_up_out _ _ _ (by omega)]; exact hh1.2.2 (by omega))
      rw [jw_up_out σ1 _ _ (show 34 ≠ o + 4 by omega)] at k2
      rw [← hs2] at k2
      have hX2 := k2.1
      have hD2 := jk_D_tr k1.2 k2.2.1
      have hto2 := hX2.2.1
      have eo2 : σ2 o 2 = σ o 2 := by rw [hs2, jw_up_out _ _ _ (by omega), jw_up_out _ _ _ (by omega)]; exact eo1
      refine jw_W_n 1 (i' := 50) (ls' := [some (.inr (.inr 33)), some (.inl (σ o 2)), some (.inl (jk_h b m (σ1 34 0)))]) (st' := [.inr (.inr 33)]) rfl ?_
      refine jw_W_gf rfl rfl rfl ?_
      show jw_W (js_S n) _ md_84 51 [some (.inr (.inr 33)), some (.inl (σ o 2)), some (.inl (jk_h b m (σ1 34 0)))] [.inr (.inr ((σ2 33 2).toNat))] σ2 _
      rw [hto2]
      refine jw_W_gf rfl hpo.2.1 rfl ?_
      show jw_W (js_S n) _ md_84 52 [some (.inr (.inr 33)), some (.inl (σ o 2)), some (.inl (jk_h b m (σ1 34 0)))] [.inr (.inr (o + 3))] σ2 _
      refine jw_W_n 2 (i' := 54) (ls' := [some (.inr (.inr 33)), some (.inl (σ o 2)), some (.inl (jk_h b m (σ1 34 0)))]) (st' := [.inr (.inr 33), .inl (σ o 2), .inr (.inr (o + 3))]) rfl ?_
      refine jw_W_gf rfl rfl rfl ?_
      show jw_W (js_S n) _ md_84 55 [some (.inr (.inr 33)), some (.inl (σ o 2)), some (.inl (jk_h b m (σ1 34 0)))] [.inr (.inr 34), .inl (σ o 2), .inr (.inr (o + 3))] σ2 _
      refine jw_W_n 1 (i' := 56) (ls' := [some (.inr (.inr 33)), some (.inl (σ o 2)), some (.inl (jk_h b m (σ1 34 0)))]) (st' := [.inl 2, .inr (.inr 34), .inl (σ o 2), .inr (.inr (o + 3))]) rfl ?_
      refine jw_W_call (as := [.inr (.inr 34), .inl 2]) (rest := [.inl (σ o 2), .inr (.inr (o + 3))]) rfl rfl rfl rfl (Nat.le_of_ble_eq_true rfl) (.inr rfl) (jk_numberX hX2) (by omega) ?_ rfl
      rintro r1 σ3 ⟨v, rfl, hv, hE3, h3⟩
      rename jw_H => σ3
      have hX3 := hE3.1
      have hto3 := hX3.2.1
      have k3 := jk_XD_row hX3 (w := o + 3) (by omega) (σ o 2) v
      have hto3x := k3.1.2.1
      show jw_W (js_S n) _ md_84 57 [some (.inr (.inr 33)), some (.inl (σ o 2)), some (.inl (jk_h b m (σ1 34 0)))] [.inl v, .inl (σ o 2), .inr (.inr (o + 3))] σ3 _
      refine jw_W_is rfl (by omega) hpo.2.2.2.2.1 (by omega) (by omega) (by omega) ?_
      refine jw_W_n 1 (i' := 59) (ls' := [some (.inr (.inr 33)), some (.inl (σ o 2)), some (.inl (jk_h b m (σ1 34 0)))]) (st' := [.inr (.inr 33)]) rfl ?_
      refine jw_W_gf rfl rfl rfl ?_
      show jw_W (js_S n) _ md_84 60 [some (.inr (.inr 33)), some (.inl (σ o 2)), some (.inl (jk_h b m (σ1 34 0)))] [.inr (.inr 34)] ((jw_up σ3 (o + 3) (σ o 2) v)) _
      refine jw_W_call (as := [.inr (.inr 34)]) (rest := []) rfl rfl rfl rfl (Nat.le_of_ble_eq_true rfl) (.inr rfl) (jk_refuseX k3.1) (by omega) ?_ rfl
      rintro r1 σ4 ⟨rfl, hE4, h40, h42⟩
      rename jw_H => σ4
      have hX4 := hE4.1
      have hto4 := hX4.2.1
      have hD4 := jk_D_tr hE3.2.1 (jk_D_tr k3.2 hE4.2.1)
      have eo4 : σ4 o 2 = σ o 2 := by rw [hE4.2.2 o (by omega), jw_up_out _ _ _ (by omega), hE3.2.2 o (by omega)]; exact eo2
      show jw_W (js_S n) _ md_84 61 [some (.inr (.inr 33)), some (.inl (σ o 2)), some (.inl (jk_h b m (σ1 34 0)))] [] σ4 _
      refine jw_W_n 1 (i' := 62) (ls' := [some (.inr (.inr 33)), some (.inl (σ o 2)), some (.inl (jk_h b m (σ1 34 0)))]) (st' := [.inr (.inr 33)]) rfl ?_
      refine jw_W_gf rfl rfl rfl ?_
      show jw_W (js_S n) _ md_84 63 [some (.inr (.inr 33)), some (.inl (σ o 2)), some (.inl (jk_h b m (σ1 34 0)))] [.inr (.inr ((σ4 33 2).toNat))] σ4 _
      rw [hto4]
      refine jw_W_n 1 (i' := 64) (ls' := [some (.inr (.inr 33)), some (.inl (σ o 2)), some (.inl (jk_h b m (σ1 34 0)))]) (st' := [.inr (.inr o), .inr (.inr o)]) rfl ?_
      refine jw_W_gf rfl hpo.2.1 rfl ?_
      show jw_W (js_S n) _ md_84 65 [some (.inr (.inr 33)), some (.inl (σ o 2)), some (.inl (jk_h b m (σ1 34 0)))] [.inl (σ4 o 2), .inr (.inr o)] σ4 _
      refine jw_W_n 2 (i' := 67) (ls' := [some (.inr (.inr 33)), some (.inl (σ o 2)), some (.inl (jk_h b m (σ1 34 0)))]) (st' := [.inl (σ4 o 2 + 1), .inr (.inr o)]) rfl ?_
      refine jw_W_pf (a := σ4 o 2 + 1) rfl (by omega) hpo.2.1 rfl rfl rfl rfl ?_
      refine jw_W_re rfl ?_
      have k5 := jk_XD_f hX4 (j := 2) (v := σ4 o 2 + 1) (by omega)
      have hDD := jk_D_tr (jk_D_tr hR.2.1 hD2) (jk_D_tr hD4 k5.2)
      exact ⟨rfl, k5.1, hDD, by rw [eo4]; exact jk_keep_ok hX hrl rfl hk4 hR (by omega) hs2 ⟨hE3, h3⟩ ⟨hE4, h40, h42⟩⟩
  · have hc1 : ¬ ((jk_h b m (σ1 34 0)) = 60) := hc1
    refine jw_W_n 2 (i' := 22) (ls' := [some (.inr (.inr 33)), some (.inl (σ o 2)), some (.inl (jk_h b m (σ1 34 0)))]) (st' := [.inl 62, .inl (jk_h b m (σ1 34 0))]) rfl ?_
    refine jw_W_ic rfl (by unfold jw_rg; omega) (by unfold jw_rg; omega) (fun hc3 => ?_) (fun hc3 => ?_)
    · have hc3 : (jk_h b m (σ1 34 0)) ≠ 62 := hc3
      refine jw_W_n 1 (i' := 43) (ls' := [some (.inr (.inr 33)), some (.inl (σ o 2)), some (.inl (jk_h b m (σ1 34 0)))]) (st' := [.inr (.inr 33)]) rfl ?_
      refine jw_W_gf rfl rfl rfl ?_
      show jw_W (js_S n) _ md_84 44 [some (.inr (.inr 33)), some (.inl (σ o 2)), some (.inl (jk_h b m (σ1 34 0)))] [.inr (.inr 34)] σ1 _
      refine jw_W_n 2 (i' := 46) (ls' := [some (.inr (.inr 33)), some (.inl (σ o 2)), some (.inl (jk_h b m (σ1 34 0)))]) (st' := [.inr (.inr 33), .inl 1, .inr (.inr 34)]) rfl ?_
      refine jw_W_gf rfl rfl rfl ?_
      show jw_W (js_S n) _ md_84 47 [some (.inr (.inr 33)), some (.inl (σ o 2)), some (.inl (jk_h b m (σ1 34 0)))] [.inr (.inr 34), .inl 1, .inr (.inr 34)] σ1 _
      refine jw_W_gf rfl rfl rfl ?_
      show jw_W (js_S n) _ md_84 48 [some (.inr (.inr 33)), some (.inl (σ o 2)), some (.inl (jk_h b m (σ1 34 0)))] [.inl (σ1 34 0), .inl 1, .inr (.inr 34)] σ1 _
      refine jw_W_call (as := [.inr (.inr 34), .inl 1, .inl (σ1 34 0)]) (rest := []) rfl rfl rfl rfl (Nat.le_of_ble_eq_true rfl) (.inr rfl) (jk_failX hX1 (by omega) (by omega)) (by omega) ?_ rfl
      rintro r1 σ2 ⟨rfl, hE2, h20, h22⟩
      rename jw_H => σ2
      have hX2 := hE2.1
      have hD2 := hE2.2.1
      have hto2 := hX2.2.1
      show jw_W (js_S n) _ md_84 49 [some (.inr (.inr 33)), some (.inl (σ o 2)), some (.inl (jk_h b m (σ1 34 0)))] [] σ2 _
      have eo2 : σ2 o 2 = σ o 2 := by rw [hE2.2.2 o (by omega)]; exact eo1
      refine jw_W_n 1 (i' := 50) (ls' := [some (.inr (.inr 33)), some (.inl (σ o 2)), some (.inl (jk_h b m (σ1 34 0)))]) (st' := [.inr (.inr 33)]) rfl ?_
      refine jw_W_gf rfl rfl rfl ?_
      show jw_W (js_S n) _ md_84 51 [some (.inr (.inr 33)), some (.inl (σ o 2)), some (.inl (jk_h b m (σ1 34 0)))] [.inr (.inr ((σ2 33 2).toNat))] σ2 _
      rw [hto2]
      refine jw_W_gf rfl hpo.2.1 rfl ?_
      show jw_W (js_S n) _ md_84 52 [some (.inr (.inr 33)), some (.inl (σ o 2)), some (.inl (jk_h b m (σ1 34 0)))] [.inr (.inr (o + 3))] σ2 _
      refine jw_W_n 2 (i' := 54) (ls' := [some (.inr (.inr 33)), some (.inl (σ o 2)), some (.inl (jk_h b m (σ1 34 0)))]) (st' := [.inr (.inr 33), .inl (σ o 2), .inr (.inr (o + 3))]) rfl ?_
      refine jw_W_gf rfl rfl rfl ?_
      show jw_W (js_S n) _ md_84 55 [some (.inr (.inr 33)), some (.inl (σ o 2)), some (.inl (jk_h b m (σ1 34 0)))] [.inr (.inr 34), .inl (σ o 2), .inr (.inr (o + 3))] σ2 _
      refine jw_W_n 1 (i' := 56) (ls' := [some (.inr (.inr 33)), some (.inl (σ o 2)), some (.inl (jk_h b m (σ1 34 0)))]) (st' := [.inl 2, .inr (.inr 34), .inl (σ o 2), .inr (.inr (o + 3))]) rfl ?_
      refine jw_W_call (as := [.inr (.inr 34), .inl 2]) (rest := [.inl (σ o 2), .inr (.inr (o + 3))]) rfl rfl rfl rfl (Nat.le_of_ble_eq_true rfl) (.inr rfl) (jk_numberX hX2) (by omega) ?_ rfl
      rintro r1 σ3 ⟨v, rfl, hv, hE3, h3⟩
      rename jw_H => σ3
      have hX3 := hE3.1
      have hto3 := hX3.2.1
      have k3 := jk_XD_row hX3 (w := o + 3) (by omega) (σ o 2) v
      have hto3x := k3.1.2.1
      show jw_W (js_S n) _ md_84 57 [some (.inr (.inr 33)), some (.inl (σ o 2)), some (.inl (jk_h b m (σ1 34 0)))] [.inl v, .inl (σ o 2), .inr (.inr (o + 3))] σ3 _
      refine jw_W_is rfl (by omega) hpo.2.2.2.2.1 (by omega) (by omega) (by omega) ?_
      refine jw_W_n 1 (i' := 59) (ls' := [some (.inr (.inr 33)), some (.inl (σ o 2)), some (.inl (jk_h b m (σ1 34 0)))]) (st' := [.inr (.inr 33)]) rfl ?_
      refine jw_W_gf rfl rfl rfl ?_
      show jw_W (js_S n) _ md_84 60 [some (.inr (.inr 33)), some (.inl (σ o 2)), some (.inl (jk_h b m (σ1 34 0)))] [.inr (.inr 34)] ((jw_up σ3 (o + 3) (σ o 2) v)) _
      refine jw_W_call (as := [.inr (.inr 34)]) (rest := []) rfl rfl rfl rfl (Nat.le_of_ble_eq_true rfl) (.inr rfl) (jk_refuseX k3.1) (by omega) ?_ rfl
      rintro r1 σ4 ⟨rfl, hE4, h40, h42⟩
      rename jw_H => σ4
      have hX4 := hE4.1
      have hto4 := hX4.2.1
      have hD4 := jk_D_tr hE3.2.1 (jk_D_tr k3.2 hE4.2.1)
      have eo4 : σ4 o 2 = σ o 2 := by rw [hE4.2.2 o (by omega), jw_up_out _ _ _ (by omega), hE3.2.2 o (by omega)]; exact eo2
      show jw_W (js_S n) _ md_84 61 [some (.inr (.inr 33)), some (.inl (σ o 2)), some (.inl (jk_h b m (σ1 34 0)))] [] σ4 _
      refine jw_W_n 1 (i' := 62) (ls' := [some (.inr (.inr 33)), some (.inl (σ o 2)), some (.inl (jk_h b m (σ1 34 0)))]) (st' := [.inr (.inr 33)]) rfl ?_
      refine jw_W_gf rfl rfl rfl ?_
      show jw_W (js_S n) _ md_84 63 [some (.inr (.inr 33)), some (.inl (σ o 2)), some (.inl (jk_h b m (σ1 34 0)))] [.inr (.inr ((σ4 33 2).toNat))] σ4 _
      rw [hto4]
      refine jw_W_n 1 (i' := 64) (ls' := [some (.inr (.inr 33)), some (.inl (σ o 2)), some (.inl (jk_h b m (σ1 34 0)))]) (st' := [.inr (.inr o), .inr (.inr o)]) rfl ?_
      refine jw_W_gf rfl hpo.2.1 rfl ?_
      show jw_W (js_S n) _ md_84 65 [some (.inr (.inr 33)), some (.inl (σ o 2)), some (.inl (jk_h b m (σ1 34 0)))] [.inl (σ4 o 2), .inr (.inr o)] σ4 _
      refine jw_W_n 2 (i' := 67) (ls' := [some (.inr (.inr 33)), some (.inl (σ o 2)), some (.inl (jk_h b m (σ1 34 0)))]) (st' := [.inl (σ4 o 2 + 1), .inr (.inr o)]) rfl ?_
      refine jw_W_pf (a := σ4 o 2 + 1) rfl (by omega) hpo.2.1 rfl rfl rfl rfl ?_
      refine jw_W_re rfl ?_
      have k5 := jk_XD_f hX4 (j := 2) (v := σ4 o 2 + 1) (by omega)
      have hDD := jk_D_tr (jk_D_tr hR.2.1 hD2) (jk_D_tr hD4 k5.2)
      exact ⟨rfl, k5.1, hDD, jk_keep_bad hrl hR (by omega) ⟨hE2, h22⟩ (jk_D_tr hD4 k5.2)⟩
    · have hc3 : (jk_h b m (σ1 34 0)) = 62 := Classical.not_not.mp hc3
      refine jw_W_n 1 (i' := 24) (ls' := [some (.inr (.inr 33)), some (.inl (σ o 2)), some (.inl (jk_h b m (σ1 34 0)))]) (st' := [.inr (.inr 33)]) rfl ?_
      refine jw_W_gf rfl rfl rfl ?_
      show jw_W (js_S n) _ md_84 25 [some (.inr (.inr 33)), some (.inl (σ o 2)), some (.inl (jk_h b m (σ1 34 0)))] [.inr (.inr ((σ1 33 2).toNat))] σ1 _
      rw [hto1]
      refine jw_W_gf rfl hpo.2.1 rfl ?_
      show jw_W (js_S n) _ md_84 26 [some (.inr (.inr 33)), some (.inl (σ o 2)), some (.inl (jk_h b m (σ1 34 0)))] [.inr (.inr (o + 4))] σ1 _
      refine jw_W_n 3 (i' := 29) (ls' := [some (.inr (.inr 33)), some (.inl (σ o 2)), some (.inl (jk_h b m (σ1 34 0)))]) (st' := [.inl 60, .inl (jk_h b m (σ1 34 0)), .inl (σ o 2), .inr (.inr (o + 4))]) rfl ?_
      refine jw_W_ic rfl (by unfold jw_rg; omega) (by unfold jw_rg; omega) (fun hc4 => ?_) (fun hc4 => ?_)
      · have hc4 : (jk_h b m (σ1 34 0)) ≠ 60 := hc4
        refine jw_W_n 1 (i' := 33) (ls' := [some (.inr (.inr 33)), some (.inl (σ o 2)), some (.inl (jk_h b m (σ1 34 0)))]) (st' := [.inl 1, .inl (σ o 2), .inr (.inr (o + 4))]) rfl ?_
        refine jw_W_is rfl (by omega) hpo.2.2.2.2.2.1 (by omega) (by omega) (by omega) ?_
        refine jw_W_n 1 (i' := 35) (ls' := [some (.inr (.inr 33)), some (.inl (σ o 2)), some (.inl (jk_h b m (σ1 34 0)))]) (st' := [.inr (.inr 33)]) rfl ?_
        refine jw_W_gf rfl rfl rfl ?_
        show jw_W (js_S n) _ md_84 36 [some (.inr (.inr 33)), some (.inl (σ o 2)), some (.inl (jk_h b m (σ1 34 0)))] [.inr (.inr 34)] ((jw_up σ1 (o + 4) (σ o 2) 1)) _
        refine jw_W_n 1 (i' := 37) (ls' := [some (.inr (.inr 33)), some (.inl (σ o 2)), some (.inl (jk_h b m (σ1 34 0)))]) (st' := [.inr (.inr 34), .inr (.inr 34)]) rfl ?_
        refine jw_W_gf rfl rfl rfl ?_
        show jw_W (js_S n) _ md_84 38 [some (.inr (.inr 33)), some (.inl (σ o 2)), some (.inl (jk_h b m (σ1 34 0)))] [.inl ((jw_up σ1 (o + 4) (σ o 2) 1) 34 0), .inr (.inr 34)] ((jw_up σ1 (o + 4) (σ o 2) 1)) _
        rw [jw_up_out σ1 _ _ (show 34 ≠ o + 4 by omega)]
        refine jw_W_n 2 (i' := 40) (ls' := [some (.inr (.inr 33)), some (.inl (σ o 2)), some (.inl (jk_h b m (σ1 34 0)))]) (st' := [.inl (σ1 34 0 + 1), .inr (.inr 34)]) rfl ?_
        refine jw_W_pf (a := σ1 34 0 + 1) rfl (by omega) rfl rfl rfl rfl rfl ?_
        refine jw_W_n 1 (i' := 49) (ls' := [some (.inr (.inr 33)), some (.inl (σ o 2)), some (.inl (jk_h b m (σ1 34 0)))]) (st' := []) rfl ?_
        obtain ⟨σ2, hs2⟩ : ∃ s, s = jw_up (jw_up σ1 (o + 4) (σ o 2) 1) 34 0 (σ1 34 0 + 1) := ⟨_, rfl⟩
        show jw_W (js_S n) _ _ _ _ _ (jw_up (jw_up σ1 (o + 4) (σ o 2) 1) 34 0 (σ1 34 0 + 1)) _
        rw [← hs2]
        have k1 := jk_XD_row hX1 (w := o + 4) (by omega) (σ o 2) 1
        have k2 := jk_E_at k1.1 (by rw [jw_up_out _ _ _ (by omega)]; exact hh1.2.2 (by omega))
        rw [jw_up_out σ1 _ _ (show 34 ≠ o + 4 by omega)] at k2
        rw [← hs2] at k2
        have hX2 := k2.1
        have hD2 := jk_D_tr k1.2 k2.2.1
        have hto2 := hX2.2.1
        have eo2 : σ2 o 2 = σ o 2 := by rw [hs2, jw_up_out _ _ _ (by omega), jw_up_out _ _ _ (by omega)]; exact eo1
        refine jw_W_n 1 (i' := 50) (ls' := [some (.inr (.inr 33)), some (.inl (σ o 2)), some (.inl (jk_h b m (σ1 34 0)))]) (st' := [.inr (.inr 33)]) rfl ?_
        refine jw_W_gf rfl rfl rfl ?_
        show jw_W (js_S n) _ md_84 51 [some (.inr (.inr 33)), some (.inl (σ o 2)), some (.inl (jk_h b m (σ1 34 0)))] [.inr (.inr ((σ2 33 2).toNat))] σ2 _
        rw [hto2]
        refine jw_W_gf rfl hpo.2.1 rfl ?_
        show jw_W (js_S n) _ md_84 52 [some (.inr (.inr 33)), some (.inl (σ o 2)), some (.inl (jk_h b m (σ1 34 0)))] [.inr (.inr (o + 3))] σ2 _
        refine jw_W_n 2 (i' := 54) (ls' := [some (.inr (.inr 33)), some (.inl (σ o 2)), some (.inl (jk_h b m (σ1 34 0)))]) (st' := [.inr (.inr 33), .inl (σ o 2), .inr (.inr (o + 3))]) rfl ?_
        refine jw_W_gf rfl rfl rfl ?_
        show jw_W (js_S n) _ md_84 55 [some (.inr (.inr 33)), some (.inl (σ o 2)), some (.inl (jk_h b m (σ1 34 0)))] [.inr (.inr 34), .inl (σ o 2), .inr (.inr (o + 3))] σ2 _
        refine jw_W_n 1 (i' := 56) (ls' := [some (.inr (.inr 33)), some (.inl (σ o 2)), some (.inl (jk_h b m (σ1 34 0)))]) (st' := [.inl 2, .inr (.inr 34), .inl (σ o 2), .inr (.inr (o + 3))]) rfl ?_
        refine jw_W_call (as := [.inr (.inr 34), .inl 2]) (rest := [.inl (σ o 2), .inr (.inr (o + 3))]) rfl rfl rfl rfl (Nat.le_of_ble_eq_true rfl) (.inr rfl) (jk_numberX hX2) (by omega) ?_ rfl
        rintro r1 σ3 ⟨v, rfl, hv, hE3, h3⟩
        rename jw_H => σ3
        have hX3 := hE3.1
        have hto3 := hX3.2.1
        have k3 := jk_XD_row hX3 (w := o + 3) (by omega) (σ o 2) v
        have hto3x := k3.1.2.1
        show jw_W (js_S n) _ md_84 57 [some (.inr (.inr 33)), some (.inl (σ o 2)), some (.inl (jk_h b m (σ1 34 0)))] [.inl v, .inl (σ o 2), .inr (.inr (o + 3))] σ3 _
        refine jw_W_is rfl (by omega) hpo.2.2.2.2.1 (by omega) (by omega) (by omega) ?_
        refine jw_W_n 1 (i' := 59) (ls' := [some (.inr (.inr 33)), some (.inl (σ o 2)), some (.inl (jk_h b m (σ1 34 0)))]) (st' := [.inr (.inr 33)]) rfl ?_
        refine jw_W_gf rfl rfl rfl ?_
        show jw_W (js_S n) _ md_84 60 [some (.inr (.inr 33)), some (.inl (σ o 2)), some (.inl (jk_h b m (σ1 34 0)))] [.inr (.inr 34)] ((jw_up σ3 (o + 3) (σ o 2) v)) _
        refine jw_W_call (as := [.inr (.inr 34)]) (rest := []) rfl rfl rfl rfl (Nat.le_of_ble_eq_true rfl) (.inr rfl) (jk_refuseX k3.1) (by omega) ?_ rfl
        rintro r1 σ4 ⟨rfl, hE4, h40, h42⟩
        rename jw_H => σ4
        have hX4 := hE4.1
        have hto4 := hX4.2.1
        have hD4 := jk_D_tr hE3.2.1 (jk_D_tr k3.2 hE4.2.1)
        have eo4 : σ4 o 2 = σ o 2 := by rw [hE4.2.2 o (by omega), jw_up_out _ _ _ (by omega), hE3.2.2 o (by omega)]; exact eo2
        show jw_W (js_S n) _ md_84 61 [some (.inr (.inr 33)), some (.inl (σ o 2)), some (.inl (jk_h b m (σ1 34 0)))] [] σ4 _
        refine jw_W_n 1 (i' := 62) (ls' := [some (.inr (.inr 33)), some (.inl (σ o 2)), some (.inl (jk_h b m (σ1 34 0)))]) (st' := [.inr (.inr 33)]) rfl ?_
        refine jw_W_gf rfl rfl rfl ?_
        show jw_W (js_S n) _ md_84 63 [some (.inr (.inr 33)), some (.inl (σ o 2)), some (.inl (jk_h b m (σ1 34 0)))] [.inr (.inr ((σ4 33 2).toNat))] σ4 _
        rw [hto4]
        refine jw_W_n 1 (i' := 64) (ls' := [some (.inr (.inr 33)), some (.inl (σ o 2)), some (.inl (jk_h b m (σ1 34 0)))]) (st' := [.inr (.inr o), .inr (.inr o)]) rfl ?_
        refine jw_W_gf rfl hpo.2.1 rfl ?_
        show jw_W (js_S n) _ md_84 65 [some (.inr (.inr 33)), some (.inl (σ o 2)), some (.inl (jk_h b m (σ1 34 0)))] [.inl (σ4 o 2), .inr (.inr o)] σ4 _
        refine jw_W_n 2 (i' := 67) (ls' := [some (.inr (.inr 33)), some (.inl (σ o 2)), some (.inl (jk_h b m (σ1 34 0)))]) (st' := [.inl (σ4 o 2 + 1), .inr (.inr o)]) rfl ?_
        refine jw_W_pf (a := σ4 o 2 + 1) rfl (by omega) hpo.2.1 rfl rfl rfl rfl ?_
        refine jw_W_re rfl ?_
        have k5 := jk_XD_f hX4 (j := 2) (v := σ4 o 2 + 1) (by omega)
        have hDD := jk_D_tr (jk_D_tr hR.2.1 hD2) (jk_D_tr hD4 k5.2)
        exact ⟨rfl, k5.1, hDD, by rw [eo4]; exact jk_keep_ok hX hrl rfl hk4 hR (by omega) hs2 ⟨hE3, h3⟩ ⟨hE4, h40, h42⟩⟩
      · have hc4 : (jk_h b m (σ1 34 0)) = 60 := Classical.not_not.mp hc4
        refine jw_W_n 2 (i' := 33) (ls' := [some (.inr (.inr 33)), some (.inl (σ o 2)), some (.inl (jk_h b m (σ1 34 0)))]) (st' := [.inl 0, .inl (σ o 2), .inr (.inr (o + 4))]) rfl ?_
        refine jw_W_is rfl (by omega) hpo.2.2.2.2.2.1 (by omega) (by omega) (by omega) ?_
        refine jw_W_n 1 (i' := 35) (ls' := [some (.inr (.inr 33)), some (.inl (σ o 2)), some (.inl (jk_h b m (σ1 34 0)))]) (st' := [.inr (.inr 33)]) rfl ?_
        refine jw_W_gf rfl rfl rfl ?_
        show jw_W (js_S n) _ md_84 36 [some (.inr (.inr 33)), some (.inl (σ o 2)), some (.inl (jk_h b m (σ1 34 0)))] [.inr (.inr 34)] ((jw_up σ1 (o + 4) (σ o 2) 0)) _
        refine jw_W_n 1 (i' := 37) (ls' := [some (.inr (.inr 33)), some (.inl (σ o 2)), some (.inl (jk_h b m (σ1 34 0)))]) (st' := [.inr (.inr 34), .inr (.inr 34)]) rfl ?_
        refine jw_W_gf rfl rfl rfl ?_
        show jw_W (js_S n) _ md_84 38 [some (.inr (.inr 33)), some (.inl (σ o 2)), some (.inl (jk_h b m (σ1 34 0)))] [.inl ((jw_up σ1 (o + 4) (σ o 2) 0) 34 0), .inr (.inr 34)] ((jw_up σ1 (o + 4) (σ o 2) 0)) _
        rw [jw_up_out σ1 _ _ (show 34 ≠ o + 4 by omega)]
        refine jw_W_n 2 (i' := 40) (ls' := [some (.inr (.inr 33)), some (.inl (σ o 2)), some (.inl (jk_h b m (σ1 34 0)))]) (st' := [.inl (σ1 34 0 + 1), .inr (.inr 34)]) rfl ?_
        refine jw_W_pf (a := σ1 34 0 + 1) rfl (by omega) rfl rfl rfl rfl rfl ?_
        refine jw_W_n 1 (i' := 49) (ls' := [some (.inr (.inr 33)), some (.inl (σ o 2)), some (.inl (jk_h b m (σ1 34 0)))]) (st' := []) rfl ?_
        obtain ⟨σ2, hs2⟩ : ∃ s, s = jw_up (jw_up σ1 (o + 4) (σ o 2) 0) 34 0 (σ1 34 0 + 1) := ⟨_, rfl⟩
        show jw_W (js_S n) _ _ _ _ _ (jw_up (jw_up σ1 (o + 4) (σ o 2) 0) 34 0 (σ1 34 0 + 1)) _
        rw [← hs2]
        have k1 := jk_XD_row hX1 (w := o + 4) (by omega) (σ o 2) 0
        have k2 := jk_E_at k1.1 (by rw [jw_up_out _ _ _ (by omega)]; exact hh1.2.2 (by omega))
        rw [jw_up_out σ1 _ _ (show 34 ≠ o + 4 by omega)] at k2
        rw [← hs2] at k2
        have hX2 := k2.1
        have hD2 := jk_D_tr k1.2 k2.2.1
        have hto2 := hX2.2.1
        have eo2 : σ2 o 2 = σ o 2 := by rw [hs2, jw_up_out _ _ _ (by omega), jw_up_out _ _ _ (by omega)]; exact eo1
        refine jw_W_n 1 (i' := 50) (ls' := [some (.inr (.inr 33)), some (.inl (σ o 2)), some (.inl (jk_h b m (σ1 34 0)))]) (st' := [.inr (.inr 33)]) rfl ?_
        refine jw_W_gf rfl rfl rfl ?_
        show jw_W (js_S n) _ md_84 51 [some (.inr (.inr 33)), some (.inl (σ o 2)), some (.inl (jk_h b m (σ1 34 0)))] [.inr (.inr ((σ2 33 2).toNat))] σ2 _
        rw [hto2]
        refine jw_W_gf rfl hpo.2.1 rfl ?_
        show jw_W (js_S n) _ md_84 52 [some (.inr (.inr 33)), some (.inl (σ o 2)), some (.inl (jk_h b m (σ1 34 0)))] [.inr (.inr (o + 3))] σ2 _
        refine jw_W_n 2 (i' := 54) (ls' := [some (.inr (.inr 33)), some (.inl (σ o 2)), some (.inl (jk_h b m (σ1 34 0)))]) (st' := [.inr (.inr 33), .inl (σ o 2), .inr (.inr (o + 3))]) rfl ?_
        refine jw_W_gf rfl rfl rfl ?_
        show jw_W (js_S n) _ md_84 55 [some (.inr (.inr 33)), some (.inl (σ o 2)), some (.inl (jk_h b m (σ1 34 0)))] [.inr (.inr 34), .inl (σ o 2), .inr (.inr (o + 3))] σ2 _
        refine jw_W_n 1 (i' := 56) (ls' := [some (.inr (.inr 33)), some (.inl (σ o 2)), some (.inl (jk_h b m (σ1 34 0)))]) (st' := [.inl 2, .inr (.inr 34), .inl (σ o 2), .inr (.inr (o + 3))]) rfl ?_
        refine jw_W_call (as := [.inr (.inr 34), .inl 2]) (rest := [.inl (σ o 2), .inr (.inr (o + 3))]) rfl rfl rfl rfl (Nat.le_of_ble_eq_true rfl) (.inr rfl) (jk_numberX hX2) (by omega) ?_ rfl
        rintro r1 σ3 ⟨v, rfl, hv, hE3, h3⟩
        rename jw_H => σ3
        have hX3 := hE3.1
        have hto3 := hX3.2.1
        have k3 := jk_XD_row hX3 (w := o + 3) (by omega) (σ o 2) v
        have hto3x := k3.1.2.1
        show jw_W (js_S n) _ md_84 57 [some (.inr (.inr 33)), some (.inl (σ o 2)), some (.inl (jk_h b m (σ1 34 0)))] [.inl v, .inl (σ o 2), .inr (.inr (o + 3))] σ3 _
        refine jw_W_is rfl (by omega) hpo.2.2.2.2.1 (by omega) (by omega) (by omega) ?_
        refine jw_W_n 1 (i' := 59) (ls' := [some (.inr (.inr 33)), some (.inl (σ o 2)), some (.inl (jk_h b m (σ1 34 0)))]) (st' := [.inr (.inr 33)]) rfl ?_
        refine jw_W_gf rfl rfl rfl ?_
        show jw_W (js_S n) _ md_84 60 [some (.inr (.inr 33)), some (.inl (σ o 2)), some (.inl (jk_h b m (σ1 34 0)))] [.inr (.inr 34)] ((jw_up σ3 (o + 3) (σ o 2) v)) _
        refine jw_W_call (as := [.inr (.inr 34)]) (rest := []) rfl rfl rfl rfl (Nat.le_of_ble_eq_true rfl) (.inr rfl) (jk_refuseX k3.1) (by omega) ?_ rfl
        rintro r1 σ4 ⟨rfl, hE4, h40, h42⟩
        rename jw_H => σ4
        have hX4 := hE4.1
        have hto4 := hX4.2.1
        have hD4 := jk_D_tr hE3.2.1 (jk_D_tr k3.2 hE4.2.1)
        have eo4 : σ4 o 2 = σ o 2 := by rw [hE4.2.2 o (by omega), jw_up_out _ _ _ (by omega), hE3.2.2 o (by omega)]; exact eo2
        show jw_W (js_S n) _ md_84 61 [some (.inr (.inr 33)), some (.inl (σ o 2)), some (.inl (jk_h b m (σ1 34 0)))] [] σ4 _
        refine jw_W_n 1 (i' := 62) (ls' := [some (.inr (.inr 33)), some (.inl (σ o 2)), some (.inl (jk_h b m (σ1 34 0)))]) (st' := [.inr (.inr 33)]) rfl ?_
        refine jw_W_gf rfl rfl rfl ?_
        show jw_W (js_S n) _ md_84 63 [some (.inr (.inr 33)), some (.inl (σ o 2)), some (.inl (jk_h b m (σ1 34 0)))] [.inr (.inr ((σ4 33 2).toNat))] σ4 _
        rw [hto4]
        refine jw_W_n 1 (i' := 64) (ls' := [some (.inr (.inr 33)), some (.inl (σ o 2)), some (.inl (jk_h b m (σ1 34 0)))]) (st' := [.inr (.inr o), .inr (.inr o)]) rfl ?_
        refine jw_W_gf rfl hpo.2.1 rfl ?_
        show jw_W (js_S n) _ md_84 65 [some (.inr (.inr 33)), some (.inl (σ o 2)), some (.inl (jk_h b m (σ1 34 0)))] [.inl (σ4 o 2), .inr (.inr o)] σ4 _
        refine jw_W_n 2 (i' := 67) (ls' := [some (.inr (.inr 33)), some (.inl (σ o 2)), some (.inl (jk_h b m (σ1 34 0)))]) (st' := [.inl (σ4 o 2 + 1), .inr (.inr o)]) rfl ?_
        refine jw_W_pf (a := σ4 o 2 + 1) rfl (by omega) hpo.2.1 rfl rfl rfl rfl ?_
        refine jw_W_re rfl ?_
        have k5 := jk_XD_f hX4 (j := 2) (v := σ4 o 2 + 1) (by omega)
        have hDD := jk_D_tr (jk_D_tr hR.2.1 hD2) (jk_D_tr hD4 k5.2)
        exact ⟨rfl, k5.1, hDD, by rw [eo4]; exact jk_keep_ok hX hrl rfl hk4 hR (by omega) hs2 ⟨hE3, h3⟩ ⟨hE4, h40, h42⟩⟩

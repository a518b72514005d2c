/-! ===== cornerIs, edge: class and reference ===== -/
/-- the answer of cornerIs -/
noncomputable def jm_cia (σ : jw_H) (i j : Int) : Int := if i < 0 ∨ ¬ (0 ≤ j ∧ j ≤ 5) then -1 else if σ 103 56 ≤ i then -4 else if j = 0 then σ 136 i else if j = 1 then jx_cn (fun c => jm_nx σ 137 i c) (σ 103 56).toNat else if j = 2 then jx_b (jm_good σ i) else if j = 3 then jx_b (jm_weakb σ i) else if j = 4 then σ 139 i else jx_cn (fun c => jm_nx σ 138 i c) (σ 103 56).toNat
theorem jm_cia_me {σ0 σ : jw_H} (h : jx_me σ0 σ) (i j : Int) : jm_cia σ i j = jm_cia σ0 i j := by
  simp only [jm_cia, jm_nx, jm_good, jm_weakb, h 103 (by omega), h 136 (by omega), h 137 (by omega), h 138 (by omega), h 139 (by omega)]
theorem jx_row_cn {σ : jw_H} {C : List (ge_R × Int)} (h : jm_KN σ C) {i : Int} (i0 : 0 ≤ i) (i1 : i < σ 103 56) : ((0 ≤ σ 137 i ∧ σ 137 i ≤ 1048575) ∧ (0 ≤ σ 138 i ∧ σ 138 i ≤ 1048575)) ∧ jx_cn (fun k => jb_in (σ 137 i) k.toNat) 20 = jx_cn (fun c => jm_nx σ 137 i c) (σ 103 56).toNat ∧ jx_cn (fun k => jb_in (σ 138 i) k.toNat) 20 = jx_cn (fun c => jm_nx σ 138 i c) (σ 103 56).toNat := by
  have hl := h.1.2.1.1.1
  have hb := (jm_kw_cbd h.1).2 σ (jm_fk_rf σ)
  have hn := hb.1
  refine ⟨⟨h.2.1.1 i i0 (by omega), h.2.1.2 i i0 (by omega)⟩, ?_, ?_⟩
  · exact jx_cn_more (by omega) (fun k h0 h1 hh => by have := ((jx_nx1 h i0 i1 (by omega)).mp hh).1; omega)
  · exact jx_cn_more (by omega) (fun k h0 h1 hh => by have := ((jx_nx2 h i0 i1 (by omega)).mp hh).1; omega)
theorem jx_cornerIs {n : Nat} {σ : jw_H} {o : Nat} {C : List (ge_R × Int)} (hK : jx_K n o C σ) {i j : Int} (hi : jw_rg i) (hj : jw_rg j) : jw_T (js_S n) 8 123 [.inr (.inr 13), .inl i, .inl j] σ (fun r σ' => r = some (.inl (jm_cia σ i j)) ∧ jx_fx σ σ' ∧ jx_jj σ') := by
  refine jw_T_of (D := 7) (M := mm_123) rfl (Nat.le_of_ble_eq_true rfl) (ls0 := [some (.inr (.inr 13)), some (.inl i), some (.inl j)]) rfl ?_ (by rintro _ _ ⟨rfl, -⟩; rfl)
  have hI := hK.1
  obtain ⟨hto, hfo, hp, hP, e0, e1, e2, hPm, hcb, c0, p0, -⟩ := jx_I0_x hI
  have ho := hp.1
  have hq := hP.1
  have hw := hP.2.1
  have hq2 := hP.2.2.1
  have hcn := hcb.1
  have rhi := hi
  unfold jw_rg at rhi
  have rhj := hj
  unfold jw_rg at rhj
  refine jw_W_n 1 (i' := 1) (ls' := [some (.inr (.inr 13)), some (.inl i), some (.inl j)]) (st' := [.inl i]) rfl ?_
  refine jw_W_if rfl (by unfold jw_rg; omega) (fun hc1 => ?_) (fun hc1 => ?_)
  · have hc1 : i < 0 := hc1
    refine jw_W_n 1 (i' := 8) (ls' := [some (.inr (.inr 13)), some (.inl i), some (.inl j)]) (st' := [.inl ((-1))]) rfl ?_
    refine jw_W_ir rfl ?_
    exact ⟨by unfold jm_cia; rw [if_pos (by omega)], jx_fx_rf σ, hK.2.2⟩
  · have hc1 : ¬ (i < 0) := hc1
    refine jw_W_n 1 (i' := 3) (ls' := [some (.inr (.inr 13)), some (.inl i), some (.inl j)]) (st' := [.inl j]) rfl ?_
    refine jw_W_if rfl (by unfold jw_rg; omega) (fun hc2 => ?_) (fun hc2 => ?_)
    · have hc2 : j < 0 := hc2
      refine jw_W_n 1 (i' := 8) (ls' := [some (.inr (.inr 13)), some (.inl i), some (.inl j)]) (st' := [.inl ((-1))]) rfl ?_
      refine jw_W_ir rfl ?_
      exact ⟨by unfold jm_cia; rw [if_pos (by omega)], jx_fx_rf σ, hK.2.2⟩
    · have hc2 : ¬ (j < 0) := hc2
      refine jw_W_n 2 (i' := 6) (ls' := [some (.inr (.inr 13)), some (.inl i), some (.inl j)]) (st' := [.inl 5, .inl j]) rfl ?_
      refine jw_W_ic rfl (by unfold jw_rg; omega) (by unfold jw_rg; omega) (fun hc3 => ?_) (fun hc3 => ?_)
      · have hc3 : j ≤ 5 := hc3
        refine jw_W_n 2 (i' := 11) (ls' := [some (.inr (.inr 13)), some (.inl i), some (.inl j)]) (st' := [.inr (.inr 13), .inl i]) rfl ?_
        refine jw_W_gf rfl rfl rfl ?_
        show jw_W (js_S n) _ md_123 12 [some (.inr (.inr 13)), some (.inl i), some (.inl j)] [.inr (.inr 57), .inl i] σ _
        refine jw_W_gf rfl rfl rfl ?_
        show jw_W (js_S n) _ md_123 13 [some (.inr (.inr 13)), some (.inl i), some (.inl j)] [.inl (σ 57 0), .inl i] σ _
        refine jw_W_ic rfl (by unfold jw_rg; omega) (by unfold jw_rg; omega) (fun hc4 => ?_) (fun hc4 => ?_)
        · have hc4 : i < (σ 57 0) := hc4
          refine jw_W_n 1 (i' := 17) (ls' := [some (.inr (.inr 13)), some (.inl i), some (.inl j)]) (st' := [.inr (.inr 13)]) rfl ?_
          refine jw_W_gf rfl rfl rfl ?_
          show jw_W (js_S n) _ md_123 18 [some (.inr (.inr 13)), some (.inl i), some (.inl j)] [.inr (.inr 57)] σ _
          refine jw_W_call (as := [.inr (.inr 57)]) (rest := []) rfl rfl rfl rfl (Nat.le_of_ble_eq_true rfl) (.inr rfl) (jx_judgeK hK) (by omega) ?_ rfl
          rintro r1 σ1 ⟨rfl, hf1, hK1⟩
          have hI1 := hK1.1
          have hfo1 := hI1.2.1.1
          have hto1 : (σ1 13 2).toNat = o := by have := hI1.1.1; omega
          have hKN1 := hK1.2.1
          have hjd1 := hK1.2.2.2
          have hme1 := jx_fx_me hf1
          have e1031 : σ1 103 = σ 103 := hme1 103 (by omega)
          have e5701 : σ1 57 0 = σ 103 56 := by rw [← e1031]; exact hI1.2.1.2.1
          have hI1x := jx_I0_x hI1
          have hPm1 := hI1x.2.2.2.2.2.2.2.1
          have hcb1 := hI1x.2.2.2.2.2.2.2.2.1
          have e0561 : σ1 103 56 = σ 103 56 := by rw [e1031]
          have e0031 : σ1 103 3 = σ 103 3 := by rw [e1031]
          have e0041 : σ1 103 4 = σ 103 4 := by rw [e1031]
          have e0051 : σ1 103 5 = σ 103 5 := by rw [e1031]
          show jw_W (js_S n) _ md_123 19 [some (.inr (.inr 13)), some (.inl i), some (.inl j)] [] σ1 _
          refine jw_W_n 1 (i' := 20) (ls' := [some (.inr (.inr 13)), some (.inl i), some (.inl j)]) (st' := [.inl j]) rfl ?_
          refine jw_W_sw rfl (by unfold jw_rg; omega) rfl (fun hc5 => ?_) (fun hc5a hc5b t ht => ?_)
          · have hc5 : j < 0 ∨ 4 < j := hc5
            refine jw_W_n 1 (i' := 58) (ls' := [some (.inr (.inr 13)), some (.inl i), some (.inl j)]) (st' := [.inr (.inr 13)]) rfl ?_
            refine jw_W_gf rfl rfl rfl ?_
            show jw_W (js_S n) _ md_123 59 [some (.inr (.inr 13)), some (.inl i), some (.inl j)] [.inr (.inr 57)] σ1 _
            refine jw_W_n 2 (i' := 61) (ls' := [some (.inr (.inr 13)), some (.inl i), some (.inl j)]) (st' := [.inl 2, .inl i, .inr (.inr 57)]) rfl ?_
            refine jw_W_call (as := [.inr (.inr 57), .inl i, .inl 2]) (rest := []) rfl rfl rfl rfl (Nat.le_of_ble_eq_true rfl) (.inr rfl) (jx_linksOf2 hK1 (by omega) (by omega)) (by omega) ?_ rfl
            rintro r1 σz ⟨rfl, hs⟩
            rw [hs]
            show jw_W (js_S n) _ md_123 62 [some (.inr (.inr 13)), some (.inl i), some (.inl j)] [.inl (jx_cn (fun c => jm_nx σ1 138 i c) (σ1 103 56).toNat)] σ1 _
            refine jw_W_ir rfl ?_
            exact ⟨by rw [← jm_cia_me hme1]; unfold jm_cia; rw [if_neg (by omega), if_neg (by omega), if_neg (by omega), if_neg (by omega), if_neg (by omega), if_neg (by omega), if_neg (by omega)], hf1, .inr hK1.2.2⟩
          · rcases (show j = 0 ∨ j = 1 ∨ j = 2 ∨ j = 3 ∨ j = 4 by omega) with hc5 | hc5 | hc5 | hc5 | hc5
            · obtain rfl : 21 = t := by rw [hc5] at ht; exact Option.some.inj ht
              refine jw_W_n 1 (i' := 22) (ls' := [some (.inr (.inr 13)), some (.inl i), some (.inl j)]) (st' := [.inr (.inr 13)]) rfl ?_
              refine jw_W_gf rfl rfl rfl ?_
              show jw_W (js_S n) _ md_123 23 [some (.inr (.inr 13)), some (.inl i), some (.inl j)] [.inr (.inr 57)] σ1 _
              refine jw_W_gf rfl rfl rfl ?_
              show jw_W (js_S n) _ md_123 24 [some (.inr (.inr 13)), some (.inl i), some (.inl j)] [.inr (.inr 63)] σ1 _
              refine jw_W_n 1 (i' := 25) (ls' := [some (.inr (.inr 13)), some (.inl i), some (.inl j)]) (st' := [.inl i, .inr (.inr 63)]) rfl ?_
              refine jw_W_ia rfl rfl (by omega) (by omega) (by omega) ?_
              show jw_W (js_S n) _ md_123 26 [some (.inr (.inr 13)), some (.inl i), some (.inl j)] [.inl (σ1 63 i)] σ1 _
              refine jw_W_ir rfl ?_
              exact ⟨by rw [← jm_cia_me hme1]; unfold jm_cia; rw [if_neg (by omega), if_neg (by omega), if_pos (by omega)]; rw [(jx_I0_c hI1 (by omega) (by omega)).2.1], hf1, .inr hK1.2.2⟩
            · obtain rfl : 27 = t := by rw [hc5] at ht; exact Option.some.inj ht
              refine jw_W_n 1 (i' := 28) (ls' := [some (.inr (.inr 13)), some (.inl i), some (.inl j)]) (st' := [.inr (.inr 13)]) rfl ?_
              refine jw_W_gf rfl rfl rfl ?_
              show jw_W (js_S n) _ md_123 29 [some (.inr (.inr 13)), some (.inl i), some (.inl j)] [.inr (.inr 57)] σ1 _
              refine jw_W_n 2 (i' := 31) (ls' := [some (.inr (.inr 13)), some (.inl i), some (.inl j)]) (st' := [.inl 1, .inl i, .inr (.inr 57)]) rfl ?_
              refine jw_W_call (as := [.inr (.inr 57), .inl i, .inl 1]) (rest := []) rfl rfl rfl rfl (Nat.le_of_ble_eq_true rfl) (.inr rfl) (jx_linksOf1 hK1 (by omega) (by omega)) (by omega) ?_ rfl
              rintro r1 σz ⟨rfl, hs⟩
              rw [hs]
              show jw_W (js_S n) _ md_123 32 [some (.inr (.inr 13)), some (.inl i), some (.inl j)] [.inl (jx_cn (fun c => jm_nx σ1 137 i c) (σ1 103 56).toNat)] σ1 _
              refine jw_W_ir rfl ?_
              exact ⟨by rw [← jm_cia_me hme1]; unfold jm_cia; rw [if_neg (by omega), if_neg (by omega), if_neg (by omega), if_pos (by omega)], hf1, .inr hK1.2.2⟩
            · obtain rfl : 33 = t := by rw [hc5] at ht; exact Option.some.inj ht
              refine jw_W_n 1 (i' := 34) (ls' := [some (.inr (.inr 13)), some (.inl i), some (.inl j)]) (st' := [.inr (.inr 13)]) rfl ?_
              refine jw_W_gf rfl rfl rfl ?_
              show jw_W (js_S n) _ md_123 35 [some (.inr (.inr 13)), some (.inl i), some (.inl j)] [.inr (.inr 57)] σ1 _
              refine jw_W_n 1 (i' := 36) (ls' := [some (.inr (.inr 13)), some (.inl i), some (.inl j)]) (st' := [.inl i, .inr (.inr 57)]) rfl ?_
              refine jw_W_call (as := [.inr (.inr 57), .inl i]) (rest := []) rfl rfl rfl rfl (Nat.le_of_ble_eq_true rfl) (.inr rfl) (jx_isEfficient hK1 (by omega) (by omega)) (by omega) ?_ rfl
              rintro r1 σz (⟨rfl, hs, hg⟩ | ⟨rfl, hs, hg⟩)
              · rw [hs]
                show jw_W (js_S n) _ md_123 37 [some (.inr (.inr 13)), some (.inl i), some (.inl j)] [.inl 1] σ1 _
                refine jw_W_if rfl (by unfold jw_rg; omega) (fun hc6 => ?_) (fun hc6 => ?_)
                · exact absurd hc6 (show ¬ ((1 : Int) = 0) by omega)
                · clear hc6
                  refine jw_W_n 2 (i' := 41) (ls' := [some (.inr (.inr 13)), some (.inl i), some (.inl j)]) (st' := [.inl 1]) rfl ?_
                  refine jw_W_ir rfl ?_
                  first
                    | exact ⟨by rw [← jm_cia_me hme1]; unfold jm_cia; rw [if_neg (by omega), if_neg (by omega), if_neg (by omega), if_neg (by omega), if_pos (by omega)]; rw [jx_b_1 hg], hf1, .inr hK1.2.2⟩
                    | exact ⟨by rw [← jm_cia_me hme1]; unfold jm_cia; rw [if_neg (by omega), if_neg (by omega), if_neg (by omega), if_neg (by omega), if_neg (by omega), if_pos (by omega)]; rw [jx_b_1 hg], hf1, .inr hK1.2.2⟩
              · rw [hs]
                show jw_W (js_S n) _ md_123 37 [some (.inr (.inr 13)), some (.inl i), some (.inl j)] [.inl 0] σ1 _
                refine jw_W_if rfl (by unfold jw_rg; omega) (fun hc7 => ?_) (fun hc7 => ?_)
                · clear hc7
                  refine jw_W_n 1 (i' := 41) (ls' := [some (.inr (.inr 13)), some (.inl i), some (.inl j)]) (st' := [.inl 0]) rfl ?_
                  refine jw_W_ir rfl ?_
                  first
                    | exact ⟨by rw [← jm_cia_me hme1]; unfold jm_cia; rw [if_neg (by omega), if_neg (by omega), if_neg (by omega), if_neg (by omega), if_pos (by omega)]; rw [jx_b_0 hg], hf1, .inr hK1.2.2⟩
                    | exact ⟨by rw [← jm_cia_me hme1]; unfold jm_cia; rw [if_neg (by omega), if_neg (by omega), if_neg (by omega), if_neg (by omega), if_neg (by omega), if_pos (by omega)]; rw [jx_b_0 hg], hf1, .inr hK1.2.2⟩
                · exact absurd hc7 (show ¬ ¬ ((0 : Int) = 0) by omega)
            · obtain rfl : 42 = t := by rw [hc5] at ht; exact Option.some.inj ht
              refine jw_W_n 1 (i' := 43) (ls' := [some (.inr (.inr 13)), some (.inl i), some (.inl j)]) (st' := [.inr (.inr 13)]) rfl ?_
              refine jw_W_gf rfl rfl rfl ?_
              show jw_W (js_S n) _ md_123 44 [some (.inr (.inr 13)), some (.inl i), some (.inl j)] [.inr (.inr 57)] σ1 _
              refine jw_W_n 1 (i' := 45) (ls' := [some (.inr (.inr 13)), some (.inl i), some (.inl j)]) (st' := [.inl i, .inr (.inr 57)]) rfl ?_
              refine jw_W_call (as := [.inr (.inr 57), .inl i]) (rest := []) rfl rfl rfl rfl (Nat.le_of_ble_eq_true rfl) (.inr rfl) (jx_isWeak hK1 (by omega) (by omega)) (by omega) ?_ rfl
              rintro r1 σz (⟨rfl, hs, hg⟩ | ⟨rfl, hs, hg⟩)
              · rw [hs]
                show jw_W (js_S n) _ md_123 46 [some (.inr (.inr 13)), some (.inl i), some (.inl j)] [.inl 1] σ1 _
                refine jw_W_if rfl (by unfold jw_rg; omega) (fun hc8 => ?_) (fun hc8 => ?_)
                · exact absurd hc8 (show ¬ ((1 : Int) = 0) by omega)
                · clear hc8
                  refine jw_W_n 2 (i' := 50) (ls' := [some (.inr (.inr 13)), some (.inl i), some (.inl j)]) (st' := [.inl 1]) rfl ?_
                  refine jw_W_ir rfl ?_
                  first
                    | exact ⟨by rw [← jm_cia_me hme1]; unfold jm_cia; rw [if_neg (by omega), if_neg (by omega), if_neg (by omega), if_neg (by omega), if_pos (by omega)]; rw [jx_b_1 hg], hf1, .inr hK1.2.2⟩
                    | exact ⟨by rw [← jm_cia_me hme1]; unfold jm_cia; rw [if_neg (by omega), if_neg (by omega), if_neg (by omega), if_neg (by omega), if_neg (by omega), if_pos (by omega)]; rw [jx_b_1 hg], hf1, .inr hK1.2.2⟩
              · rw [hs]
                show jw_W (js_S n) _ md_123 46 [some (.inr (.inr 13)), some (.inl i), some (.inl j)] [.inl 0] σ1 _
                refine jw_W_if rfl (by unfold jw_rg; omega) (fun hc9 => ?_) (fun hc9 => ?_)
                · clear hc9
                  refine jw_W_n 1 (i' := 50) (ls' := [some (.inr (.inr 13)), some (.inl i), some (.inl j)]) (st' := [.inl 0]) rfl ?_
                  refine jw_W_ir rfl ?_
                  first
                    | exact ⟨by rw [← jm_cia_me hme1]; unfold jm_cia; rw [if_neg (by omega), if_neg (by omega), if_neg (by omega), if_neg (by omega), if_pos (by omega)]; rw [jx_b_0 hg], hf1, .inr hK1.2.2⟩
                    | exact ⟨by rw [← jm_cia_me hme1]; unfold jm_cia; rw [if_neg (by omega), if_neg (by omega), if_neg (by omega), if_neg (by omega), if_neg (by omega), if_pos (by omega)]; rw [jx_b_0 hg], hf1, .inr hK1.2.2⟩
                · exact absurd hc9 (show ¬ ¬ ((0 : Int) = 0) by omega)
            · obtain rfl : 51 = t := by rw [hc5] at ht; exact Option.some.inj ht
              refine jw_W_n 1 (i' := 52) (ls' := [some (.inr (.inr 13)), some (.inl i), some (.inl j)]) (st' := [.inr (.inr 13)]) rfl ?_
              refine jw_W_gf rfl rfl rfl ?_
              show jw_W (js_S n) _ md_123 53 [some (.inr (.inr 13)), some (.inl i), some (.inl j)] [.inr (.inr 57)] σ1 _
              refine jw_W_gf rfl rfl rfl ?_
              show jw_W (js_S n) _ md_123 54 [some (.inr (.inr 13)), some (.inl i), some (.inl j)] [.inr (.inr 64)] σ1 _
              refine jw_W_n 1 (i' := 55) (ls' := [some (.inr (.inr 13)), some (.inl i), some (.inl j)]) (st' := [.inl i, .inr (.inr 64)]) rfl ?_
              refine jw_W_ia rfl rfl (by omega) (by omega) (by omega) ?_
              show jw_W (js_S n) _ md_123 56 [some (.inr (.inr 13)), some (.inl i), some (.inl j)] [.inl (σ1 64 i)] σ1 _
              refine jw_W_ir rfl ?_
              exact ⟨by rw [← jm_cia_me hme1]; unfold jm_cia; rw [if_neg (by omega), if_neg (by omega), if_neg (by omega), if_neg (by omega), if_neg (by omega), if_neg (by omega), if_pos (by omega)]; rw [(hjd1 i (by omega) (by omega)).2.1], hf1, .inr hK1.2.2⟩
        · have hc4 : ¬ (i < (σ 57 0)) := hc4
          refine jw_W_n 1 (i' := 15) (ls' := [some (.inr (.inr 13)), some (.inl i), some (.inl j)]) (st' := [.inl ((-4))]) rfl ?_
          refine jw_W_ir rfl ?_
          exact ⟨by unfold jm_cia; rw [if_neg (by omega), if_pos (by omega)], jx_fx_rf σ, hK.2.2⟩
      · have hc3 : ¬ (j ≤ 5) := hc3
        refine jw_W_n 1 (i' := 8) (ls' := [some (.inr (.inr 13)), some (.inl i), some (.inl j)]) (st' := [.inl ((-1))]) rfl ?_
        refine jw_W_ir rfl ?_
        exact ⟨by unfold jm_cia; rw [if_pos (by omega)], jx_fx_rf σ, hK.2.2⟩
theorem jm_cornerIs {n : Nat} {σ : jw_H} {C : List (ge_R × Int)} (hKN : jm_KN σ C) {i j : Int} (hi : jw_rg i) (hj : jw_rg j) : jw_T (js_S n) 2 265 [.inr (.inr 103), .inl i, .inl j] σ (fun r σ' => r = some (.inl (jm_cia σ i j)) ∧ σ' = σ) := by
  refine jw_T_of (D := 1) (M := mm_265) rfl (Nat.le_of_ble_eq_true rfl) (ls0 := [some (.inr (.inr 103)), some (.inl i), some (.inl j)]) rfl ?_ (by rintro _ _ ⟨rfl, -⟩; rfl)
  have hcb := (jm_kw_cbd hKN.1).2 σ (jm_fk_rf σ)
  have hcn := hcb.1
  have hg57 := hKN.2.2.1.1
  have hg58 := hKN.2.2.2.1.1
  have rhi := hi
  unfold jw_rg at rhi
  have rhj := hj
  unfold jw_rg at rhj
  refine jw_W_n 1 (i' := 1) (ls' := [some (.inr (.inr 103)), some (.inl i), some (.inl j)]) (st' := [.inl i]) rfl ?_
  refine jw_W_if rfl (by unfold jw_rg; omega) (fun hc1 => ?_) (fun hc1 => ?_)
  · have hc1 : i < 0 := hc1
    refine jw_W_n 1 (i' := 8) (ls' := [some (.inr (.inr 103)), some (.inl i), some (.inl j)]) (st' := [.inl ((-1))]) rfl ?_
    refine jw_W_ir rfl ?_
    exact ⟨by unfold jm_cia; rw [if_pos (by omega)], rfl⟩
  · have hc1 : ¬ (i < 0) := hc1
    refine jw_W_n 3 (i' := 5) (ls' := [some (.inr (.inr 103)), some (.inl i), some (.inl j)]) (st' := [.inl 5, .inl 0, .inl j]) rfl ?_
    refine jw_W_call (as := [.inl j, .inl 0, .inl 5]) (rest := []) rfl rfl rfl rfl (Nat.le_of_ble_eq_true rfl) (.inl rfl) (jm_in (by unfold jw_rg; omega) (by unfold jw_rg; omega) (by unfold jw_rg; omega)) (by omega) ?_ rfl
    rintro r1 σz (⟨rfl, hs, q1⟩ | ⟨rfl, hs, q1⟩)
    · rw [hs]
      show jw_W (js_S n) _ md_265 6 [some (.inr (.inr 103)), some (.inl i), some (.inl j)] [.inl 1] σ _
      refine jw_W_if rfl (by unfold jw_rg; omega) (fun hc2 => ?_) (fun hc2 => ?_)
      · clear hc2
        refine jw_W_n 2 (i' := 11) (ls' := [some (.inr (.inr 103)), some (.inl i), some (.inl j)]) (st' := [.inr (.inr 103), .inl i]) rfl ?_
        refine jw_W_gf rfl rfl rfl ?_
        show jw_W (js_S n) _ md_265 12 [some (.inr (.inr 103)), some (.inl i), some (.inl j)] [.inl (σ 103 56), .inl i] σ _
        refine jw_W_ic rfl (by unfold jw_rg; omega) (by unfold jw_rg; omega) (fun hc3 => ?_) (fun hc3 => ?_)
        · have hc3 : i < (σ 103 56) := hc3
          have hro := jx_row_cn hKN (i := i) (by omega) (by omega)
          refine jw_W_n 1 (i' := 16) (ls' := [some (.inr (.inr 103)), some (.inl i), some (.inl j)]) (st' := [.inl j]) rfl ?_
          refine jw_W_sw rfl (by unfold jw_rg; omega) rfl (fun hc4 => ?_) (fun hc4a hc4b t ht => ?_)
          · have hc4 : j < 0 ∨ 4 < j := hc4
            refine jw_W_n 1 (i' := 48) (ls' := [some (.inr (.inr 103)), some (.inl i), some (.inl j)]) (st' := [.inr (.inr 103)]) rfl ?_
            refine jw_W_gf rfl rfl rfl ?_
            show jw_W (js_S n) _ md_265 49 [some (.inr (.inr 103)), some (.inl i), some (.inl j)] [.inr (.inr 138)] σ _
            refine jw_W_n 1 (i' := 50) (ls' := [some (.inr (.inr 103)), some (.inl i), some (.inl j)]) (st' := [.inl i, .inr (.inr 138)]) rfl ?_
            refine jw_W_ia rfl rfl (by omega) (by omega) (by omega) ?_
            show jw_W (js_S n) _ md_265 51 [some (.inr (.inr 103)), some (.inl i), some (.inl j)] [.inl (σ 138 i)] σ _
            refine jw_W_call (as := [.inl (σ 138 i)]) (rest := []) rfl rfl rfl rfl (Nat.le_of_ble_eq_true rfl) (.inl rfl) (jx_sizeOf hro.1.2.1 hro.1.2.2) (by omega) ?_ rfl
            rintro r1 σz ⟨rfl, hs⟩
            rw [hs, hro.2.2]
            show jw_W (js_S n) _ md_265 52 [some (.inr (.inr 103)), some (.inl i), some (.inl j)] [.inl (jx_cn (fun c => jm_nx σ 138 i c) (σ 103 56).toNat)] σ _
            refine jw_W_ir rfl ?_
            exact ⟨by unfold jm_cia; rw [if_neg (by omega), if_neg (by omega), if_neg (by omega), if_neg (by omega), if_neg (by omega), if_neg (by omega), if_neg (by omega)], rfl⟩
          · rcases (show j = 0 ∨ j = 1 ∨ j = 2 ∨ j = 3 ∨ j = 4 by omega) with hc4 | hc4 | hc4 | hc4 | hc4
            · obtain rfl : 17 = t := by rw [hc4] at ht; exact Option.some.inj ht
              refine jw_W_n 1 (i' := 18) (ls' := [some (.inr (.inr 103)), some (.inl i), some (.inl j)]) (st' := [.inr (.inr 103)]) rfl ?_
              refine jw_W_gf rfl rfl rfl ?_
              show jw_W (js_S n) _ md_265 19 [some (.inr (.inr 103)), some (.inl i), some (.inl j)] [.inr (.inr 136)] σ _
              refine jw_W_n 1 (i' := 20) (ls' := [some (.inr (.inr 103)), some (.inl i), some (.inl j)]) (st' := [.inl i, .inr (.inr 136)]) rfl ?_
              refine jw_W_ia rfl rfl (by omega) (by omega) (by omega) ?_
              show jw_W (js_S n) _ md_265 21 [some (.inr (.inr 103)), some (.inl i), some (.inl j)] [.inl (σ 136 i)] σ _
              refine jw_W_ir rfl ?_
              exact ⟨by unfold jm_cia; rw [if_neg (by omega), if_neg (by omega), if_pos (by omega)], rfl⟩
            · obtain rfl : 22 = t := by rw [hc4] at ht; exact Option.some.inj ht
              refine jw_W_n 1 (i' := 23) (ls' := [some (.inr (.inr 103)), some (.inl i), some (.inl j)]) (st' := [.inr (.inr 103)]) rfl ?_
              refine jw_W_gf rfl rfl rfl ?_
              show jw_W (js_S n) _ md_265 24 [some (.inr (.inr 103)), some (.inl i), some (.inl j)] [.inr (.inr 137)] σ _
              refine jw_W_n 1 (i' := 25) (ls' := [some (.inr (.inr 103)), some (.inl i), some (.inl j)]) (st' := [.inl i, .inr (.inr 137)]) rfl ?_
              refine jw_W_ia rfl rfl (by omega) (by omega) (by omega) ?_
              show jw_W (js_S n) _ md_265 26 [some (.inr (.inr 103)), some (.inl i), some (.inl j)] [.inl (σ 137 i)] σ _
              refine jw_W_call (as := [.inl (σ 137 i)]) (rest := []) rfl rfl rfl rfl (Nat.le_of_ble_eq_true rfl) (.inl rfl) (jx_sizeOf hro.1.1.1 hro.1.1.2) (by omega) ?_ rfl
              rintro r1 σz ⟨rfl, hs⟩
              rw [hs, hro.2.1]
              show jw_W (js_S n) _ md_265 27 [some (.inr (.inr 103)), some (.inl i), some (.inl j)] [.inl (jx_cn (fun c => jm_nx σ 137 i c) (σ 103 56).toNat)] σ _
              refine jw_W_ir rfl ?_
              exact ⟨by unfold jm_cia; rw [if_neg (by omega), if_neg (by omega), if_neg (by omega), if_pos (by omega)], rfl⟩
            · obtain rfl : 28 = t := by rw [hc4] at ht; exact Option.some.inj ht
              refine jw_W_n 1 (i' := 29) (ls' := [some (.inr (.inr 103)), some (.inl i), some (.inl j)]) (st' := [.inr (.inr 103)]) rfl ?_
              refine jw_W_gf rfl rfl rfl ?_
              show jw_W (js_S n) _ md_265 30 [some (.inr (.inr 103)), some (.inl i), some (.inl j)] [.inl (σ 103 57)] σ _
              refine jw_W_n 4 (i' := 34) (ls' := [some (.inr (.inr 103)), some (.inl i), some (.inl j)]) (st' := [.inl (jw_and (jw_shr (σ 103 57) i) 1)]) rfl ?_
              refine jw_W_ir rfl ?_
              have hz := jb_has (s := σ 103 57) (k := i) (by omega) (by omega) (by omega) (by omega)
              rw [hz]
              refine ⟨?_, rfl⟩
              by_cases hg : jb_in (σ 103 57) i.toNat
              · rw [if_pos hg]
                unfold jm_cia
                rw [if_neg (by omega), if_neg (by omega), if_neg (by omega), if_neg (by omega), if_pos (by omega)]
                rw [jx_b_1 (show jm_good σ i from hg)]
              · rw [if_neg hg]
                unfold jm_cia
                rw [if_neg (by omega), if_neg (by omega), if_neg (by omega), if_neg (by omega), if_pos (by omega)]
                rw [jx_b_0 (show ¬ jm_good σ i from hg)]
            · obtain rfl : 35 = t := by rw [hc4] at ht; exact Option.some.inj ht
              refine jw_W_n 1 (i' := 36) (ls' := [some (.inr (.inr 103)), some (.inl i), some (.inl j)]) (st' := [.inr (.inr 103)]) rfl ?_
              refine jw_W_gf rfl rfl rfl ?_
              show jw_W (js_S n) _ md_265 37 [some (.inr (.inr 103)), some (.inl i), some (.inl j)] [.inl (σ 103 58)] σ _
              refine jw_W_n 4 (i' := 41) (ls' := [some (.inr (.inr 103)), some (.inl i), some (.inl j)]) (st' := [.inl (jw_and (jw_shr (σ 103 58) i) 1)]) rfl ?_
              refine jw_W_ir rfl ?_
              have hz := jb_has (s := σ 103 58) (k := i) (by omega) (by omega) (by omega) (by omega)
              rw [hz]
              refine ⟨?_, rfl⟩
              by_cases hg : jb_in (σ 103 58) i.toNat
              · rw [if_pos hg]
                unfold jm_cia
                rw [if_neg (by omega), if_neg (by omega), if_neg (by omega), if_neg (by omega), if_neg (by omega), if_pos (by omega)]
                rw [jx_b_1 (show jm_weakb σ i from hg)]
              · rw [if_neg hg]
                unfold jm_cia
                rw [if_neg (by omega), if_neg (by omega), if_neg (by omega), if_neg (by omega), if_neg (by omega), if_pos (by omega)]
                rw [jx_b_0 (show ¬ jm_weakb σ i from hg)]
            · obtain rfl : 42 = t := by rw [hc4] at ht; exact Option.some.inj ht
              refine jw_W_n 1 (i' := 43) (ls' := [some (.inr (.inr 103)), some (.inl i), some (.inl j)]) (st' := [.inr (.inr 103)]) rfl ?_
              refine jw_W_gf rfl rfl rfl ?_
              show jw_W (js_S n) _ md_265 44 [some (.inr (.inr 103)), some (.inl i), some (.inl j)] [.inr (.inr 139)] σ _
              refine jw_W_n 1 (i' := 45) (ls' := [some (.inr (.inr 103)), some (.inl i), some (.inl j)]) (st' := [.inl i, .inr (.inr 139)]) rfl ?_
              refine jw_W_ia rfl rfl (by omega) (by omega) (by omega) ?_
              show jw_W (js_S n) _ md_265 46 [some (.inr (.inr 103)), some (.inl i), some (.inl j)] [.inl (σ 139 i)] σ _
              refine jw_W_ir rfl ?_
              exact ⟨by unfold jm_cia; rw [if_neg (by omega), if_neg (by omega), if_neg (by omega), if_neg (by omega), if_neg (by omega), if_neg (by omega), if_pos (by omega)], rfl⟩
        · have hc3 : ¬ (i < (σ 103 56)) := hc3
          refine jw_W_n 1 (i' := 14) (ls' := [some (.inr (.inr 103)), some (.inl i), some (.inl j)]) (st' := [.inl ((-4))]) rfl ?_
          refine jw_W_ir rfl ?_
          exact ⟨by unfold jm_cia; rw [if_neg (by omega), if_pos (by omega)], rfl⟩
      · exact absurd hc2 (show ¬ ¬ ((1 : Int) ≠ 0) by omega)
    · rw [hs]
      show jw_W (js_S n) _ md_265 6 [some (.inr (.inr 103)), some (.inl i), some (.inl j)] [.inl 0] σ _
      refine jw_W_if rfl (by unfold jw_rg; omega) (fun hc5 => ?_) (fun hc5 => ?_)
      · exact absurd hc5 (show ¬ ((0 : Int) ≠ 0) by omega)
      · clear hc5
        refine jw_W_n 1 (i' := 8) (ls' := [some (.inr (.inr 103)), some (.inl i), some (.inl j)]) (st' := [.inl ((-1))]) rfl ?_
        refine jw_W_ir rfl ?_
        exact ⟨by unfold jm_cia; rw [if_pos (by omega)], rfl⟩
theorem jx_edge {n : Nat} {σ : jw_H} {o : Nat} {C : List (ge_R × Int)} (hK : jx_K n o C σ) {i j : Int} (hi : jw_rg i) (hj : jw_rg j) : jw_T (js_S n) 8 124 [.inr (.inr 13), .inl i, .inl j] σ (fun r σ' => ∃ v, r = some (.inl v) ∧ jx_fx σ σ' ∧ jx_jj σ' ∧ jm_ea σ i j v) := by
  refine jw_T_of (D := 7) (M := mm_124) rfl (Nat.le_of_ble_eq_true rfl) (ls0 := [some (.inr (.inr 13)), some (.inl i), some (.inl j)]) rfl ?_ (by rintro _ _ ⟨_, rfl, -⟩; rfl)
  have hI := hK.1
  obtain ⟨hto, hfo, hp, hP, e0, e1, e2, hPm, hcb, c0, p0, -⟩ := jx_I0_x hI
  have ho := hp.1
  have hq := hP.1
  have hw := hP.2.1
  have hq2 := hP.2.2.1
  have hcn := hcb.1
  have rhi := hi
  unfold jw_rg at rhi
  have rhj := hj
  unfold jw_rg at rhj
  refine jw_W_n 2 (i' := 2) (ls' := [some (.inr (.inr 13)), some (.inl i), some (.inl j)]) (st' := [.inl i, .inr (.inr 13)]) rfl ?_
  refine jw_W_call (as := [.inr (.inr 13), .inl i]) (rest := []) rfl rfl rfl rfl (Nat.le_of_ble_eq_true rfl) (.inr rfl) (jx_isCorner hK hi) (by omega) ?_ rfl
  rintro r1 σz (⟨rfl, hs, q2⟩ | ⟨rfl, hs, q2⟩)
  · rw [hs]
    show jw_W (js_S n) _ md_124 3 [some (.inr (.inr 13)), some (.inl i), some (.inl j)] [.inl 1] σ _
    refine jw_W_if rfl (by unfold jw_rg; omega) (fun hc1 => ?_) (fun hc1 => ?_)
    · exact absurd hc1 (show ¬ ((1 : Int) = 0) by omega)
    · clear hc1
      refine jw_W_n 2 (i' := 6) (ls' := [some (.inr (.inr 13)), some (.inl i), some (.inl j)]) (st' := [.inl j, .inr (.inr 13)]) rfl ?_
      refine jw_W_call (as := [.inr (.inr 13), .inl j]) (rest := []) rfl rfl rfl rfl (Nat.le_of_ble_eq_true rfl) (.inr rfl) (jx_isCorner hK hj) (by omega) ?_ rfl
      rintro r1 σz (⟨rfl, hs, q3⟩ | ⟨rfl, hs, q3⟩)
      · rw [hs]
        show jw_W (js_S n) _ md_124 7 [some (.inr (.inr 13)), some (.inl i), some (.inl j)] [.inl 1] σ _
        refine jw_W_if rfl (by unfold jw_rg; omega) (fun hc2 => ?_) (fun hc2 => ?_)
        · exact absurd hc2 (show ¬ ((1 : Int) = 0) by omega)
        · clear hc2
          refine jw_W_n 2 (i' := 10) (ls' := [some (.inr (.inr 13)), some (.inl i), some (.inl j)]) (st' := [.inl j, .inl i]) rfl ?_
          refine jw_W_ic rfl (by unfold jw_rg; omega) (by unfold jw_rg; omega) (fun hc3 => ?_) (fun hc3 => ?_)
          · have hc3 : i ≠ j := hc3
            refine jw_W_n 1 (i' := 14) (ls' := [some (.inr (.inr 13)), some (.inl i), some (.inl j)]) (st' := [.inr (.inr 13)]) rfl ?_
            refine jw_W_gf rfl rfl rfl ?_
            show jw_W (js_S n) _ md_124 15 [some (.inr (.inr 13)), some (.inl i), some (.inl j)] [.inr (.inr 57)] σ _
            refine jw_W_call (as := [.inr (.inr 57)]) (rest := []) rfl rfl rfl rfl (Nat.le_of_ble_eq_true rfl) (.inr rfl) (jx_judgeK hK) (by omega) ?_ rfl
            rintro r1 σ1 ⟨rfl, hf1, hK1⟩
            have hI1 := hK1.1
            have hfo1 := hI1.2.1.1
            have hto1 : (σ1 13 2).toNat = o := by have := hI1.1.1; omega
            have hKN1 := hK1.2.1
            have hjd1 := hK1.2.2.2
            have hme1 := jx_fx_me hf1
            have e1031 : σ1 103 = σ 103 := hme1 103 (by omega)
            have e5701 : σ1 57 0 = σ 103 56 := by rw [← e1031]; exact hI1.2.1.2.1
            have hI1x := jx_I0_x hI1
            have hPm1 := hI1x.2.2.2.2.2.2.2.1
            have hcb1 := hI1x.2.2.2.2.2.2.2.2.1
            have e0561 : σ1 103 56 = σ 103 56 := by rw [e1031]
            have e0031 : σ1 103 3 = σ 103 3 := by rw [e1031]
            have e0041 : σ1 103 4 = σ 103 4 := by rw [e1031]
            have e0051 : σ1 103 5 = σ 103 5 := by rw [e1031]
            show jw_W (js_S n) _ md_124 16 [some (.inr (.inr 13)), some (.inl i), some (.inl j)] [] σ1 _
            refine jw_W_n 1 (i' := 17) (ls' := [some (.inr (.inr 13)), some (.inl i), some (.inl j)]) (st' := [.inr (.inr 13)]) rfl ?_
            refine jw_W_gf rfl rfl rfl ?_
            show jw_W (js_S n) _ md_124 18 [some (.inr (.inr 13)), some (.inl i), some (.inl j)] [.inr (.inr 57)] σ1 _
            refine jw_W_gf rfl rfl rfl ?_
            show jw_W (js_S n) _ md_124 19 [some (.inr (.inr 13)), some (.inl i), some (.inl j)] [.inr (.inr 66)] σ1 _
            refine jw_W_n 1 (i' := 20) (ls' := [some (.inr (.inr 13)), some (.inl i), some (.inl j)]) (st' := [.inl i, .inr (.inr 66)]) rfl ?_
            refine jw_W_aa rfl rfl (by omega) (by omega) (by omega) ?_
            show jw_W (js_S n) _ md_124 21 [some (.inr (.inr 13)), some (.inl i), some (.inl j)] [.inr (.inr (67 + (i).toNat))] σ1 _
            refine jw_W_n 1 (i' := 22) (ls' := [some (.inr (.inr 13)), some (.inl i), some (.inl j)]) (st' := [.inl j, .inr (.inr (67 + (i).toNat))]) rfl ?_
            refine jw_W_ia rfl (jx_lsh (by omega) (by omega)) (by omega) (by omega) (by omega) ?_
            show jw_W (js_S n) _ md_124 23 [some (.inr (.inr 13)), some (.inl i), some (.inl j)] [.inl (σ1 (67 + (i).toNat) j)] σ1 _
            refine jw_W_ir rfl ?_
            have hlv := jx_lk_v hKN1 (i := i) (c := j) (by omega) (by omega) (by omega) (by omega) ((hjd1 i (by omega) (by omega)).2.2 j (by omega) (by omega))
            refine ⟨_, rfl, hf1, .inr hK1.2.2, .inr ⟨by omega, ?_⟩⟩
            have n7 : jm_nx σ1 137 i j ↔ jm_nx σ 137 i j := by unfold jm_nx; rw [hme1 137 (by omega)]
            have n8 : jm_nx σ1 138 i j ↔ jm_nx σ 138 i j := by unfold jm_nx; rw [hme1 138 (by omega)]
            rw [n7, n8] at hlv
            by_cases c2 : jm_nx σ 138 i j
            · exact .inl ⟨by have := hlv.2.2.mpr c2; omega, c2⟩
            · by_cases c1 : jm_nx σ 137 i j
              · exact .inr (.inl ⟨by have := hlv.2.1.mpr c1; have : ¬ (2 ≤ σ1 (67 + i.toNat) j) := fun hh => c2 (hlv.2.2.mp hh); omega, c2, c1⟩)
              · exact .inr (.inr ⟨by have : ¬ (1 ≤ σ1 (67 + i.toNat) j) := fun hh => c1 (hlv.2.1.mp hh); omega, c2, c1⟩)
          · have hc3 : i = j := Classical.not_not.mp hc3
            refine jw_W_n 1 (i' := 12) (ls' := [some (.inr (.inr 13)), some (.inl i), some (.inl j)]) (st' := [.inl ((-1))]) rfl ?_
            refine jw_W_ir rfl ?_
            exact ⟨_, rfl, jx_fx_rf σ, hK.2.2, .inl ⟨rfl, by omega⟩⟩
      · rw [hs]
        show jw_W (js_S n) _ md_124 7 [some (.inr (.inr 13)), some (.inl i), some (.inl j)] [.inl 0] σ _
        refine jw_W_if rfl (by unfold jw_rg; omega) (fun hc4 => ?_) (fun hc4 => ?_)
        · clear hc4
          refine jw_W_n 1 (i' := 12) (ls' := [some (.inr (.inr 13)), some (.inl i), some (.inl j)]) (st' := [.inl ((-1))]) rfl ?_
          refine jw_W_ir rfl ?_
          exact ⟨_, rfl, jx_fx_rf σ, hK.2.2, .inl ⟨rfl, by omega⟩⟩
        · exact absurd hc4 (show ¬ ¬ ((0 : Int) = 0) by omega)
  · rw [hs]
    show jw_W (js_S n) _ md_124 3 [some (.inr (.inr 13)), some (.inl i), some (.inl j)] [.inl 0] σ _
    refine jw_W_if rfl (by unfold jw_rg; omega) (fun hc5 => ?_) (fun hc5 => ?_)
    · clear hc5
      refine jw_W_n 1 (i' := 12) (ls' := [some (.inr (.inr 13)), some (.inl i), some (.inl j)]) (st' := [.inl ((-1))]) rfl ?_
      refine jw_W_ir rfl ?_
      exact ⟨_, rfl, jx_fx_rf σ, hK.2.2, .inl ⟨rfl, by omega⟩⟩
    · exact absurd hc5 (show ¬ ¬ ((0 : Int) = 0) by omega)
theorem jm_ea_uq {σ : jw_H} {i j v w : Int} (h : jm_ea σ i j v) (h' : jm_ea σ i j w) : v = w := by
  unfold jm_ea at *
  rcases h with ⟨a, b⟩ | ⟨a, b⟩ <;> rcases h' with ⟨c, d⟩ | ⟨c, d⟩
  · omega
  · exact absurd c b
  · exact absurd a d
  · rcases b with ⟨b1, b2⟩ | ⟨b1, b2, b3⟩ | ⟨b1, b2, b3⟩ <;> rcases d with ⟨d1, d2⟩ | ⟨d1, d2, d3⟩ | ⟨d1, d2, d3⟩ <;> first | omega | (exfalso; first | exact d2 b2 | exact b2 d2 | exact d3 b3 | exact b3 d3)
theorem jm_ea_me {σ0 σ : jw_H} (h : jx_me σ0 σ) (i j v : Int) : jm_ea σ i j v ↔ jm_ea σ0 i j v := by
  simp only [jm_ea, jm_nx, h 103 (by omega), h 137 (by omega), h 138 (by omega)]

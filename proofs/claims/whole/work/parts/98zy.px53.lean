/-! ===== shadow of the reference: the answer ===== -/
theorem jm_shadow {n : Nat} {σ : jw_H} {C : List (ge_R × Int)} (hKN : jm_KN σ C) {k a b2 c t : Int} (hk : jw_rg k) (ra : jw_rg a) (rb : jw_rg b2) (rc : jw_rg c) (ht : jw_rg t) : jw_T (js_S n) 8 308 [.inr (.inr 103), .inl k, .inl a, .inl b2, .inl c, .inl t] σ (fun r σ' => ∃ v, r = some (.inr (.inl v)) ∧ jm_fz σ σ' ∧ jm_shd σ (-99999999) k a b2 c t v) := by
  refine jw_T_of (D := 7) (M := mm_308) rfl (Nat.le_of_ble_eq_true rfl) (ls0 := [some (.inr (.inr 103)), some (.inl k), some (.inl a), some (.inl b2), some (.inl c), some (.inl t), none, none, none]) rfl ?_ (by rintro _ _ ⟨_, rfl, -⟩; rfl)
  have hcb := (jm_kw_cbd hKN.1).2 σ (jm_fk_rf σ)
  have hcn := hcb.1
  have hPm := hKN.1.1
  have hqq := hPm.1
  have hww := hPm.2.1
  have hkk := hPm.2.2.1
  have hg57 := hKN.2.2.1.1
  have hg58 := hKN.2.2.2.1.1
  have rhk := hk
  unfold jw_rg at rhk
  have rht := ht
  unfold jw_rg at rht
  refine jw_W_n 3 (i' := 3) (ls' := [some (.inr (.inr 103)), some (.inl k), some (.inl a), some (.inl b2), some (.inl c), some (.inl t), none, none, none]) (st' := [.inr (.inr 103), .inl 0, .inl k]) rfl ?_
  refine jw_W_gf rfl rfl rfl ?_
  show jw_W (js_S n) _ md_308 4 [some (.inr (.inr 103)), some (.inl k), some (.inl a), some (.inl b2), some (.inl c), some (.inl t), none, none, none] [.inl (σ 103 5), .inl 0, .inl k] σ _
  refine jw_W_n 2 (i' := 6) (ls' := [some (.inr (.inr 103)), some (.inl k), some (.inl a), some (.inl b2), some (.inl c), some (.inl t), none, none, none]) (st' := [.inl (σ 103 5 - 1), .inl 0, .inl k]) rfl ?_
  refine jw_W_call (as := [.inl k, .inl 0, .inl (σ 103 5 - 1)]) (rest := []) rfl rfl rfl rfl (Nat.le_of_ble_eq_true rfl) (.inl rfl) (jm_in (by unfold jw_rg; omega) (by unfold jw_rg; omega) (by unfold jw_rg; omega)) (by omega) ?_ rfl
  rintro r1 σz (⟨rfl, hs, q1⟩ | ⟨rfl, hs, q1⟩)
  · rw [hs]
    show jw_W (js_S n) _ md_308 7 [some (.inr (.inr 103)), some (.inl k), some (.inl a), some (.inl b2), some (.inl c), some (.inl t), none, none, none] [.inl 1] σ _
    refine jw_W_if rfl (by unfold jw_rg; omega) (fun hc1 => ?_) (fun hc1 => ?_)
    · exact absurd hc1 (show ¬ ((1 : Int) = 0) by omega)
    · clear hc1
      refine jw_W_n 4 (i' := 12) (ls' := [some (.inr (.inr 103)), some (.inl k), some (.inl a), some (.inl b2), some (.inl c), some (.inl t), none, none, none]) (st' := [.inl c, .inl b2, .inl a, .inr (.inr 103)]) rfl ?_
      refine jw_W_call (as := [.inr (.inr 103), .inl a, .inl b2, .inl c]) (rest := []) rfl rfl rfl rfl (Nat.le_of_ble_eq_true rfl) (.inr rfl) (jm_takesW ra rb rc) (by omega) ?_ rfl
      rintro r1 σ1 ⟨v, rfl, hf, hv⟩
      have hv01 : v = 0 ∨ v = 1 := by rcases hv with ⟨e, -⟩ | ⟨e, -⟩ <;> omega
      have hz := jm_w142_z hKN hf
      have e103 := hf.1 103 (by omega)
      have e56 : σ1 103 56 = σ 103 56 := by rw [e103]
      have e55 : σ1 103 5 = σ 103 5 := by rw [e103]
      have e53 : σ1 103 3 = σ 103 3 := by rw [e103]
      show jw_W (js_S n) _ md_308 13 [some (.inr (.inr 103)), some (.inl k), some (.inl a), some (.inl b2), some (.inl c), some (.inl t), none, none, none] [.inl v] σ1 _
      refine jw_W_if rfl (by unfold jw_rg; omega) (fun hc2 => ?_) (fun hc2 => ?_)
      · have hc2 : v = 0 := hc2
        refine jw_W_ld2 (z := (-100000000)) rfl rfl ?_
        refine jw_W_lr rfl ?_
        exact ⟨_, rfl, hz, .inl ⟨rfl, fun hh => by obtain ⟨g1, g2, g3, g4⟩ := hh; first | omega | (rcases hv with ⟨e, -⟩ | ⟨-, hv⟩; omega; exact hv g2)⟩⟩
      · have hc2 : ¬ (v = 0) := hc2
        refine jw_W_n 3 (i' := 17) (ls' := [some (.inr (.inr 103)), some (.inl k), some (.inl a), some (.inl b2), some (.inl c), some (.inl t), none, none, none]) (st' := [.inl 1, .inl 0, .inl t]) rfl ?_
        refine jw_W_call (as := [.inl t, .inl 0, .inl 1]) (rest := []) rfl rfl rfl rfl (Nat.le_of_ble_eq_true rfl) (.inl rfl) (jm_in (by unfold jw_rg; omega) (by unfold jw_rg; omega) (by unfold jw_rg; omega)) (by omega) ?_ rfl
        rintro r1 σz (⟨rfl, hs, q2⟩ | ⟨rfl, hs, q2⟩)
        · rw [hs]
          show jw_W (js_S n) _ md_308 18 [some (.inr (.inr 103)), some (.inl k), some (.inl a), some (.inl b2), some (.inl c), some (.inl t), none, none, none] [.inl 1] σ1 _
          refine jw_W_if rfl (by unfold jw_rg; omega) (fun hc3 => ?_) (fun hc3 => ?_)
          · exact absurd hc3 (show ¬ ((1 : Int) = 0) by omega)
          · clear hc3
            refine jw_W_n 1 (i' := 20) (ls' := [some (.inr (.inr 103)), some (.inl k), some (.inl a), some (.inl b2), some (.inl c), some (.inl t), none, none, none]) (st' := [.inr (.inr 103)]) rfl ?_
            refine jw_W_gf rfl rfl rfl ?_
            show jw_W (js_S n) _ md_308 21 [some (.inr (.inr 103)), some (.inl k), some (.inl a), some (.inl b2), some (.inl c), some (.inl t), none, none, none] [.inl (σ1 103 56)] σ1 _
            refine jw_W_if rfl (by unfold jw_rg; omega) (fun hc4 => ?_) (fun hc4 => ?_)
            · have hc4 : (σ1 103 56) ≠ 0 := hc4
              have hwk := (hv.resolve_right (fun hh => by omega)).2
              obtain ⟨hKN1, -, hw3, eg, ec, -, e135⟩ := jm_w142_all hKN hf hwk
              have hPm1 := hKN1.1.1
              refine jw_W_n 1 (i' := 25) (ls' := [some (.inr (.inr 103)), some (.inl k), some (.inl a), some (.inl b2), some (.inl c), some (.inl t), none, none, none]) (st' := [.inr (.inr 103)]) rfl ?_
              refine jw_W_call (as := [.inr (.inr 103)]) (rest := []) rfl rfl rfl rfl (Nat.le_of_ble_eq_true rfl) (.inr rfl) (jm_bestC hKN1 hw3 (by omega)) (by omega) ?_ rfl
              rintro r1 σz ⟨i, rfl, hs, hb⟩
              rw [hs]
              rw [eg, ec, e56] at hb
              have hi1 := jx_fst_in (by omega) hb
              show jw_W (js_S n) _ md_308 26 [some (.inr (.inr 103)), some (.inl k), some (.inl a), some (.inl b2), some (.inl c), some (.inl t), none, none, none] [.inl i] σ1 _
              refine jw_W_n 4 (i' := 30) (ls' := [some (.inr (.inr 103)), some (.inl k), some (.inl a), some (.inl b2), some (.inl c), some (.inl t), some (.inl i), none, none]) (st' := [.inl k, .inl ((-1)), .inr (.inr 103)]) rfl ?_
              refine jw_W_call (as := [.inr (.inr 103), .inl ((-1)), .inl k]) (rest := []) rfl rfl rfl rfl (Nat.le_of_ble_eq_true rfl) (.inr rfl) (jm_laysBody hPm1 hKN1.1.2.2.2.2.1 (by unfold jw_rg; omega) (by unfold jw_rg; omega)) (by omega) ?_ rfl
              rintro r1 σ2 ⟨rfl, hlb⟩
              obtain ⟨hz1, L, hL, hll, hLv, hLe⟩ := jm_lb_L hKN1 (by omega) (by omega) hlb
              have eR : jm_RR (σ1 103 3) (jm_bk σ1 (-1) k (σ1 103 5).toNat) = jm_shR σ k := by unfold jm_shR; rw [e53, e55, jx_pq_bk (jm_fz_pq hz) (by omega) (-1) k _ (by omega)]
              rw [eR] at hLv hLe
              have hKN2 := jm_KN_fz hz1 hKN1
              have hz2 := jm_fz_tr hPm hz hz1
              have e142 := hlb.1.1 142 (by omega) (by omega)
              have e1352 : σ2 135 = σ 135 := (hlb.1.1 135 (by omega) (by omega)).trans e135
              have hw32 : ∀ k, 0 ≤ k → k < 3 → 0 ≤ σ2 142 k ∧ σ2 142 k ≤ 9 := fun k a b => by rw [e142]; exact hw3 k a b
              have eg2 : jm_gk σ2 (σ2 142) (σ2 103 4).toNat = jm_gd3 σ a b2 c := by rw [e142, hlb.1.2 4 (by omega), jm_gk_cg (hlb.1.1 104 (by omega) (by omega)) (fun _ _ _ => rfl)]; exact eg
              have ec2 : ∀ i, jm_ct σ2 i = jm_ct σ i := fun i => by rw [jm_fz_ct hz1, ec]
              have hL46 := hL.1
              have e562 : σ2 103 56 = σ 103 56 := (hz1.2.1 56 (by omega)).trans e56
              have hbd : ∀ j, 0 ≤ j → j < σ2 103 46 → jx_bd (jm_pt σ2 j) := fun j j0 j1 => by obtain ⟨x, hx, ex⟩ := jm_is_at hL j0 j1; rw [ex]; exact (hLv x hx).2.2
              show jw_W (js_S n) _ md_308 31 [some (.inr (.inr 103)), some (.inl k), some (.inl a), some (.inl b2), some (.inl c), some (.inl t), some (.inl i), none, none] [] σ2 _
              refine jw_W_n 1 (i' := 32) (ls' := [some (.inr (.inr 103)), some (.inl k), some (.inl a), some (.inl b2), some (.inl c), some (.inl t), some (.inl i), none, none]) (st' := [.inr (.inr 103)]) rfl ?_
              refine jw_W_gf rfl rfl rfl ?_
              show jw_W (js_S n) _ md_308 33 [some (.inr (.inr 103)), some (.inl k), some (.inl a), some (.inl b2), some (.inl c), some (.inl t), some (.inl i), none, none] [.inl (σ2 103 46)] σ2 _
              refine jw_W_if rfl (by unfold jw_rg; omega) (fun hc5 => ?_) (fun hc5 => ?_)
              · have hc5 : (σ2 103 46) ≠ 0 := hc5
                refine jw_W_n 4 (i' := 40) (ls' := [some (.inr (.inr 103)), some (.inl k), some (.inl a), some (.inl b2), some (.inl c), some (.inl t), some (.inl i), some (.inl 0), some (.inl 1)]) (st' := []) rfl ?_
                refine jm_shd_loop (D := 7) (by omega) hKN2 hw32 (by omega) hbd (fun {j} Hj => ?_) (σ2 103 46 - 1).toNat (b := 0) (m := 1) (by omega) (by omega) (by omega) (jx_fst_1 _ _)
                have hmx := jm_mx_L hL hLv hLe (by rw [eg2] at Hj; exact Hj) (by omega)
                have hGb := jm_gd3_Gb hPm hwk
                have hj1 := jx_fst_in (by omega) Hj
                have f1 := jx_f_bd hGb (hbd j hj1.1 hj1.2)
                have f2 := jx_f_bd hGb (jx_ct_bd hcb hi1.1 hi1.2)
                have c1 : 0 < σ2 128 j ∧ σ2 128 j ≤ 162 := (hbd j hj1.1 hj1.2).2.2.2
                have c2 := jm_cw hcb hi1.1 hi1.2
                have c3 : σ 135 i ≤ 162 := (hcb.2 i hi1.1 hi1.2).2
                have c4 : σ2 135 i = σ 135 i := by rw [e1352]
                have m1 := jx_mfw (x := ge_f (jm_gd3 σ a b2 c) (jm_pt σ2 j)) (y := σ2 135 i) f1 (by omega)
                have m2 := jx_mfw (x := ge_f (jm_gd3 σ a b2 c) (jm_ct σ i)) (y := σ2 128 j) f2 c1
                have m3 := Int.mul_pos c1.1 (show 0 < σ2 135 i by omega)
                have m4 := Int.mul_le_mul_of_nonneg_right c1.2 (show 0 ≤ σ2 135 i by omega)
                refine jw_W_n 2 (i' := 90) (ls' := [some (.inr (.inr 103)), some (.inl k), some (.inl a), some (.inl b2), some (.inl c), some (.inl t), some (.inl i), some (.inl j), some (.inl (σ2 103 46))]) (st' := [.inr (.inr 103), .inr (.inr 103)]) rfl ?_
                refine jw_W_gf rfl rfl rfl ?_
                show jw_W (js_S n) _ md_308 91 [some (.inr (.inr 103)), some (.inl k), some (.inl a), some (.inl b2), some (.inl c), some (.inl t), some (.inl i), some (.inl j), some (.inl (σ2 103 46))] [.inr (.inr 125), .inr (.inr 103)] σ2 _
                refine jw_W_n 1 (i' := 92) (ls' := [some (.inr (.inr 103)), some (.inl k), some (.inl a), some (.inl b2), some (.inl c), some (.inl t), some (.inl i), some (.inl j), some (.inl (σ2 103 46))]) (st' := [.inl j, .inr (.inr 125), .inr (.inr 103)]) rfl ?_
                refine jw_W_la rfl rfl (by omega) (by omega) (by omega) ?_
                show jw_W (js_S n) _ md_308 93 [some (.inr (.inr 103)), some (.inl k), some (.inl a), some (.inl b2), some (.inl c), some (.inl t), some (.inl i), some (.inl j), some (.inl (σ2 103 46))] [.inr (.inl (σ2 125 j)), .inr (.inr 103)] σ2 _
                refine jw_W_n 1 (i' := 94) (ls' := [some (.inr (.inr 103)), some (.inl k), some (.inl a), some (.inl b2), some (.inl c), some (.inl t), some (.inl i), some (.inl j), some (.inl (σ2 103 46))]) (st' := [.inr (.inr 103), .inr (.inl (σ2 125 j)), .inr (.inr 103)]) rfl ?_
                refine jw_W_gf rfl rfl rfl ?_
                show jw_W (js_S n) _ md_308 95 [some (.inr (.inr 103)), some (.inl k), some (.inl a), some (.inl b2), some (.inl c), some (.inl t), some (.inl i), some (.inl j), some (.inl (σ2 103 46))] [.inr (.inr 126), .inr (.inl (σ2 125 j)), .inr (.inr 103)] σ2 _
                refine jw_W_n 1 (i' := 96) (ls' := [some (.inr (.inr 103)), some (.inl k), some (.inl a), some (.inl b2), some (.inl c), some (.inl t), some (.inl i), some (.inl j), some (.inl (σ2 103 46))]) (st' := [.inl j, .inr (.inr 126), .inr (.inl (σ2 125 j)), .inr (.inr 103)]) rfl ?_
                refine jw_W_la rfl rfl (by omega) (by omega) (by omega) ?_
                show jw_W (js_S n) _ md_308 97 [some (.inr (.inr 103)), some (.inl k), some (.inl a), some (.inl b2), some (.inl c), some (.inl t), some (.inl i), some (.inl j), some (.inl (σ2 103 46))] [.inr (.inl (σ2 126 j)), .inr (.inl (σ2 125 j)), .inr (.inr 103)] σ2 _
                refine jw_W_n 1 (i' := 98) (ls' := [some (.inr (.inr 103)), some (.inl k), some (.inl a), some (.inl b2), some (.inl c), some (.inl t), some (.inl i), some (.inl j), some (.inl (σ2 103 46))]) (st' := [.inr (.inr 103), .inr (.inl (σ2 126 j)), .inr (.inl (σ2 125 j)), .inr (.inr 103)]) rfl ?_
                refine jw_W_gf rfl rfl rfl ?_
                show jw_W (js_S n) _ md_308 99 [some (.inr (.inr 103)), some (.inl k), some (.inl a), some (.inl b2), some (.inl c), some (.inl t), some (.inl i), some (.inl j), some (.inl (σ2 103 46))] [.inr (.inr 127), .inr (.inl (σ2 126 j)), .inr (.inl (σ2 125 j)), .inr (.inr 103)] σ2 _
                refine jw_W_n 1 (i' := 100) (ls' := [some (.inr (.inr 103)), some (.inl k), some (.inl a), some (.inl b2), some (.inl c), some (.inl t), some (.inl i), some (.inl j), some (.inl (σ2 103 46))]) (st' := [.inl j, .inr (.inr 127), .inr (.inl (σ2 126 j)), .inr (.inl (σ2 125 j)), .inr (.inr 103)]) rfl ?_
                refine jw_W_la rfl rfl (by omega) (by omega) (by omega) ?_
                show jw_W (js_S n) _ md_308 101 [some (.inr (.inr 103)), some (.inl k), some (.inl a), some (.inl b2), some (.inl c), some (.inl t), some (.inl i), some (.inl j), some (.inl (σ2 103 46))] [.inr (.inl (σ2 127 j)), .inr (.inl (σ2 126 j)), .inr (.inl (σ2 125 j)), .inr (.inr 103)] σ2 _
                refine jw_W_call (as := [.inr (.inr 103), .inr (.inl (σ2 125 j)), .inr (.inl (σ2 126 j)), .inr (.inl (σ2 127 j))]) (rest := []) rfl rfl rfl rfl (Nat.le_of_ble_eq_true rfl) (.inr rfl) (jm_weighed hKN2 hw32) (by omega) ?_ rfl
                rintro r1 σz ⟨rfl, hs⟩
                rw [hs, eg2]
                have q1 : ge_f (jm_gd3 σ a b2 c) (jm_pt σ2 j) = (jm_gd3 σ a b2 c).1 * σ2 125 j + (jm_gd3 σ a b2 c).2.1 * σ2 126 j + (jm_gd3 σ a b2 c).2.2 * σ2 127 j := rfl
                rw [← q1]
                show jw_W (js_S n) _ md_308 102 [some (.inr (.inr 103)), some (.inl k), some (.inl a), some (.inl b2), some (.inl c), some (.inl t), some (.inl i), some (.inl j), some (.inl (σ2 103 46))] [.inr (.inl (ge_f (jm_gd3 σ a b2 c) (jm_pt σ2 j)))] σ2 _
                refine jw_W_n 1 (i' := 103) (ls' := [some (.inr (.inr 103)), some (.inl k), some (.inl a), some (.inl b2), some (.inl c), some (.inl t), some (.inl i), some (.inl j), some (.inl (σ2 103 46))]) (st' := [.inr (.inr 103), .inr (.inl (ge_f (jm_gd3 σ a b2 c) (jm_pt σ2 j)))]) rfl ?_
                refine jw_W_gf rfl rfl rfl ?_
                show jw_W (js_S n) _ md_308 104 [some (.inr (.inr 103)), some (.inl k), some (.inl a), some (.inl b2), some (.inl c), some (.inl t), some (.inl i), some (.inl j), some (.inl (σ2 103 46))] [.inr (.inr 135), .inr (.inl (ge_f (jm_gd3 σ a b2 c) (jm_pt σ2 j)))] σ2 _
                refine jw_W_n 1 (i' := 105) (ls' := [some (.inr (.inr 103)), some (.inl k), some (.inl a), some (.inl b2), some (.inl c), some (.inl t), some (.inl i), some (.inl j), some (.inl (σ2 103 46))]) (st' := [.inl i, .inr (.inr 135), .inr (.inl (ge_f (jm_gd3 σ a b2 c) (jm_pt σ2 j)))]) rfl ?_
                refine jw_W_la rfl rfl (by omega) (by omega) (by omega) ?_
                show jw_W (js_S n) _ md_308 106 [some (.inr (.inr 103)), some (.inl k), some (.inl a), some (.inl b2), some (.inl c), some (.inl t), some (.inl i), some (.inl j), some (.inl (σ2 103 46))] [.inr (.inl (σ2 135 i)), .inr (.inl (ge_f (jm_gd3 σ a b2 c) (jm_pt σ2 j)))] σ2 _
                refine jw_W_n 3 (i' := 109) (ls' := [some (.inr (.inr 103)), some (.inl k), some (.inl a), some (.inl b2), some (.inl c), some (.inl t), some (.inl i), some (.inl j), some (.inl (σ2 103 46))]) (st' := [.inl i, .inr (.inr 103), .inr (.inl ((ge_f (jm_gd3 σ a b2 c) (jm_pt σ2 j)) * (σ2 135 i)))]) rfl ?_
                refine jw_W_call (as := [.inr (.inr 103), .inl i]) (rest := [.inr (.inl ((ge_f (jm_gd3 σ a b2 c) (jm_pt σ2 j)) * (σ2 135 i)))]) rfl rfl rfl rfl (Nat.le_of_ble_eq_true rfl) (.inr rfl) (jm_weighedOf hKN2 hw32 (by omega) (by omega)) (by omega) ?_ rfl
                rintro r1 σz ⟨rfl, hs⟩
                rw [hs, eg2, ec2]
                show jw_W (js_S n) _ md_308 110 [some (.inr (.inr 103)), some (.inl k), some (.inl a), some (.inl b2), some (.inl c), some (.inl t), some (.inl i), some (.inl j), some (.inl (σ2 103 46))] [.inr (.inl (ge_f (jm_gd3 σ a b2 c) (jm_ct σ i))), .inr (.inl ((ge_f (jm_gd3 σ a b2 c) (jm_pt σ2 j)) * (σ2 135 i)))] σ2 _
                refine jw_W_n 1 (i' := 111) (ls' := [some (.inr (.inr 103)), some (.inl k), some (.inl a), some (.inl b2), some (.inl c), some (.inl t), some (.inl i), some (.inl j), some (.inl (σ2 103 46))]) (st' := [.inr (.inr 103), .inr (.inl (ge_f (jm_gd3 σ a b2 c) (jm_ct σ i))), .inr (.inl ((ge_f (jm_gd3 σ a b2 c) (jm_pt σ2 j)) * (σ2 135 i)))]) rfl ?_
                refine jw_W_gf rfl rfl rfl ?_
                show jw_W (js_S n) _ md_308 112 [some (.inr (.inr 103)), some (.inl k), some (.inl a), some (.inl b2), some (.inl c), some (.inl t), some (.inl i), some (.inl j), some (.inl (σ2 103 46))] [.inr (.inr 128), .inr (.inl (ge_f (jm_gd3 σ a b2 c) (jm_ct σ i))), .inr (.inl ((ge_f (jm_gd3 σ a b2 c) (jm_pt σ2 j)) * (σ2 135 i)))] σ2 _
                refine jw_W_n 1 (i' := 113) (ls' := [some (.inr (.inr 103)), some (.inl k), some (.inl a), some (.inl b2), some (.inl c), some (.inl t), some (.inl i), some (.inl j), some (.inl (σ2 103 46))]) (st' := [.inl j, .inr (.inr 128), .inr (.inl (ge_f (jm_gd3 σ a b2 c) (jm_ct σ i))), .inr (.inl ((ge_f (jm_gd3 σ a b2 c) (jm_pt σ2 j)) * (σ2 135 i)))]) rfl ?_
                refine jw_W_la rfl rfl (by omega) (by omega) (by omega) ?_
                show jw_W (js_S n) _ md_308 114 [some (.inr (.inr 103)), some (.inl k), some (.inl a), some (.inl b2), some (.inl c), some (.inl t), some (.inl i), some (.inl j), some (.inl (σ2 103 46))] [.inr (.inl (σ2 128 j)), .inr (.inl (ge_f (jm_gd3 σ a b2 c) (jm_ct σ i))), .inr (.inl ((ge_f (jm_gd3 σ a b2 c) (jm_pt σ2 j)) * (σ2 135 i)))] σ2 _
                refine jw_W_n 3 (i' := 117) (ls' := [some (.inr (.inr 103)), some (.inl k), some (.inl a), some (.inl b2), some (.inl c), some (.inl t), some (.inl i), some (.inl j), some (.inl (σ2 103 46))]) (st' := [.inr (.inr 103), .inr (.inl (((ge_f (jm_gd3 σ a b2 c) (jm_pt σ2 j)) * (σ2 135 i)) - ((ge_f (jm_gd3 σ a b2 c) (jm_ct σ i)) * (σ2 128 j))))]) rfl ?_
                refine jw_W_gf rfl rfl rfl ?_
                show jw_W (js_S n) _ md_308 118 [some (.inr (.inr 103)), some (.inl k), some (.inl a), some (.inl b2), some (.inl c), some (.inl t), some (.inl i), some (.inl j), some (.inl (σ2 103 46))] [.inr (.inr 128), .inr (.inl (((ge_f (jm_gd3 σ a b2 c) (jm_pt σ2 j)) * (σ2 135 i)) - ((ge_f (jm_gd3 σ a b2 c) (jm_ct σ i)) * (σ2 128 j))))] σ2 _
                refine jw_W_n 1 (i' := 119) (ls' := [some (.inr (.inr 103)), some (.inl k), some (.inl a), some (.inl b2), some (.inl c), some (.inl t), some (.inl i), some (.inl j), some (.inl (σ2 103 46))]) (st' := [.inl j, .inr (.inr 128), .inr (.inl (((ge_f (jm_gd3 σ a b2 c) (jm_pt σ2 j)) * (σ2 135 i)) - ((ge_f (jm_gd3 σ a b2 c) (jm_ct σ i)) * (σ2 128 j))))]) rfl ?_
                refine jw_W_la rfl rfl (by omega) (by omega) (by omega) ?_
                show jw_W (js_S n) _ md_308 120 [some (.inr (.inr 103)), some (.inl k), some (.inl a), some (.inl b2), some (.inl c), some (.inl t), some (.inl i), some (.inl j), some (.inl (σ2 103 46))] [.inr (.inl (σ2 128 j)), .inr (.inl (((ge_f (jm_gd3 σ a b2 c) (jm_pt σ2 j)) * (σ2 135 i)) - ((ge_f (jm_gd3 σ a b2 c) (jm_ct σ i)) * (σ2 128 j))))] σ2 _
                refine jw_W_n 1 (i' := 121) (ls' := [some (.inr (.inr 103)), some (.inl k), some (.inl a), some (.inl b2), some (.inl c), some (.inl t), some (.inl i), some (.inl j), some (.inl (σ2 103 46))]) (st' := [.inr (.inr 103), .inr (.inl (σ2 128 j)), .inr (.inl (((ge_f (jm_gd3 σ a b2 c) (jm_pt σ2 j)) * (σ2 135 i)) - ((ge_f (jm_gd3 σ a b2 c) (jm_ct σ i)) * (σ2 128 j))))]) rfl ?_
                refine jw_W_gf rfl rfl rfl ?_
                show jw_W (js_S n) _ md_308 122 [some (.inr (.inr 103)), some (.inl k), some (.inl a), some (.inl b2), some (.inl c), some (.inl t), some (.inl i), some (.inl j), some (.inl (σ2 103 46))] [.inr (.inr 135), .inr (.inl (σ2 128 j)), .inr (.inl (((ge_f (jm_gd3 σ a b2 c) (jm_pt σ2 j)) * (σ2 135 i)) - ((ge_f (jm_gd3 σ a b2 c) (jm_ct σ i)) * (σ2 128 j))))] σ2 _
                refine jw_W_n 1 (i' := 123) (ls' := [some (.inr (.inr 103)), some (.inl k), some (.inl a), some (.inl b2), some (.inl c), some (.inl t), some (.inl i), some (.inl j), some (.inl (σ2 103 46))]) (st' := [.inl i, .inr (.inr 135), .inr (.inl (σ2 128 j)), .inr (.inl (((ge_f (jm_gd3 σ a b2 c) (jm_pt σ2 j)) * (σ2 135 i)) - ((ge_f (jm_gd3 σ a b2 c) (jm_ct σ i)) * (σ2 128 j))))]) rfl ?_
                refine jw_W_la rfl rfl (by omega) (by omega) (by omega) ?_
                show jw_W (js_S n) _ md_308 124 [some (.inr (.inr 103)), some (.inl k), some (.inl a), some (.inl b2), some (.inl c), some (.inl t), some (.inl i), some (.inl j), some (.inl (σ2 103 46))] [.inr (.inl (σ2 135 i)), .inr (.inl (σ2 128 j)), .inr (.inl (((ge_f (jm_gd3 σ a b2 c) (jm_pt σ2 j)) * (σ2 135 i)) - ((ge_f (jm_gd3 σ a b2 c) (jm_ct σ i)) * (σ2 128 j))))] σ2 _
                refine jw_W_n 2 (i' := 126) (ls' := [some (.inr (.inr 103)), some (.inl k), some (.inl a), some (.inl b2), some (.inl c), some (.inl t), some (.inl i), some (.inl j), some (.inl (σ2 103 46))]) (st' := [.inl t, .inr (.inl ((σ2 128 j) * (σ2 135 i))), .inr (.inl (((ge_f (jm_gd3 σ a b2 c) (jm_pt σ2 j)) * (σ2 135 i)) - ((ge_f (jm_gd3 σ a b2 c) (jm_ct σ i)) * (σ2 128 j))))]) rfl ?_
                refine jw_W_call (as := [.inr (.inl (((ge_f (jm_gd3 σ a b2 c) (jm_pt σ2 j)) * (σ2 135 i)) - ((ge_f (jm_gd3 σ a b2 c) (jm_ct σ i)) * (σ2 128 j)))), .inr (.inl ((σ2 128 j) * (σ2 135 i))), .inl t]) (rest := []) rfl rfl rfl rfl (Nat.le_of_ble_eq_true rfl) (.inl rfl) (jm_ofFr (by unfold jm_bg; omega) (by omega) (by omega) (by unfold jw_rg; omega)) (by omega) ?_ rfl
                rintro r1 σz ⟨rfl, hs⟩
                rw [hs]
                show jw_W (js_S n) _ md_308 127 [some (.inr (.inr 103)), some (.inl k), some (.inl a), some (.inl b2), some (.inl c), some (.inl t), some (.inl i), some (.inl j), some (.inl (σ2 103 46))] [.inr (.inl (jm_of (((ge_f (jm_gd3 σ a b2 c) (jm_pt σ2 j)) * (σ2 135 i)) - ((ge_f (jm_gd3 σ a b2 c) (jm_ct σ i)) * (σ2 128 j))) ((σ2 128 j) * (σ2 135 i)) t))] σ2 _
                refine jw_W_lr rfl ?_
                exact ⟨_, rfl, hz2, .inr ⟨⟨by omega, hwk, by omega, by omega⟩, .inr ⟨i, _, hb, hmx, by rw [c4]; rfl⟩⟩⟩
              · have hc5 : (σ2 103 46) = 0 := Classical.not_not.mp hc5
                refine jw_W_ld2 (z := (-99999999)) rfl rfl ?_
                refine jw_W_lr rfl ?_
                exact ⟨_, rfl, hz2, .inr ⟨⟨by omega, hwk, by omega, by omega⟩, .inl ⟨rfl, fun ⟨y, hy⟩ => by obtain ⟨x, hx, -⟩ := hLe y hy; have := List.length_pos_of_mem hx; omega⟩⟩⟩
            · have hc4 : (σ1 103 56) = 0 := Classical.not_not.mp hc4
              refine jw_W_ld2 (z := (-100000000)) rfl rfl ?_
              refine jw_W_lr rfl ?_
              exact ⟨_, rfl, hz, .inl ⟨rfl, fun hh => by obtain ⟨g1, g2, g3, g4⟩ := hh; first | omega | (rcases hv with ⟨e, -⟩ | ⟨-, hv⟩; omega; exact hv g2)⟩⟩
        · rw [hs]
          show jw_W (js_S n) _ md_308 18 [some (.inr (.inr 103)), some (.inl k), some (.inl a), some (.inl b2), some (.inl c), some (.inl t), none, none, none] [.inl 0] σ1 _
          refine jw_W_if rfl (by unfold jw_rg; omega) (fun hc6 => ?_) (fun hc6 => ?_)
          · clear hc6
            refine jw_W_ld2 (z := (-100000000)) rfl rfl ?_
            refine jw_W_lr rfl ?_
            exact ⟨_, rfl, hz, .inl ⟨rfl, fun hh => by obtain ⟨g1, g2, g3, g4⟩ := hh; first | omega | (rcases hv with ⟨e, -⟩ | ⟨-, hv⟩; omega; exact hv g2)⟩⟩
          · exact absurd hc6 (show ¬ ¬ ((0 : Int) = 0) by omega)
  · rw [hs]
    show jw_W (js_S n) _ md_308 7 [some (.inr (.inr 103)), some (.inl k), some (.inl a), some (.inl b2), some (.inl c), some (.inl t), none, none, none] [.inl 0] σ _
    refine jw_W_if rfl (by unfold jw_rg; omega) (fun hc7 => ?_) (fun hc7 => ?_)
    · clear hc7
      refine jw_W_ld2 (z := (-100000000)) rfl rfl ?_
      refine jw_W_lr rfl ?_
      exact ⟨_, rfl, jm_fz_rf hKN, .inl ⟨rfl, fun hh => by obtain ⟨g1, g2, g3, g4⟩ := hh; first | omega | (rcases hv with ⟨e, -⟩ | ⟨-, hv⟩; omega; exact hv g2)⟩⟩
    · exact absurd hc7 (show ¬ ¬ ((0 : Int) = 0) by omega)

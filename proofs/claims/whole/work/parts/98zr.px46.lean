/-! ===== slack ===== -/
/-- how far a corner is from a plane, over its lower number -/
def jm_sv (σ : jw_H) (i k : Int) : Int := ge_s (jx_pr σ k) (jm_ct σ i)
def jm_sla (σ : jw_H) (i k t : Int) : Int := if ¬ ((0 ≤ i ∧ i < σ 103 56) ∧ (0 ≤ k ∧ k < σ 103 5 + 2 * σ 103 3) ∧ (t = 0 ∨ t = 1)) then -1 else jm_of (if 0 ≤ jm_sv σ i k then jm_sv σ i k else -jm_sv σ i k) (σ 135 i) t
theorem jm_sv_bd {σ : jw_H} (hP : jm_Pb σ) (hcb : jm_cbd σ) {i k : Int} (i0 : 0 ≤ i) (i1 : i < σ 103 56) (k0 : 0 ≤ k) (k1 : k < σ 103 5 + 2 * σ 103 3) : -1000000 ≤ jm_sv σ i k ∧ jm_sv σ i k ≤ 1000000 := jx_pr_bd hP k0 k1 (jx_ct_bd hcb i0 i1)
theorem jm_sla_me {σ0 σ : jw_H} (h : jx_me σ0 σ) (hP : jm_Pb σ0) (i k t : Int) : jm_sla σ i k t = jm_sla σ0 i k t := by
  have hq := hP.1
  unfold jm_sla
  rw [h 103 (by omega), h 135 (by omega)]
  by_cases hc : (0 ≤ i ∧ i < σ0 103 56) ∧ (0 ≤ k ∧ k < σ0 103 5 + 2 * σ0 103 3) ∧ (t = 0 ∨ t = 1)
  · have e : jm_sv σ i k = jm_sv σ0 i k := by
      unfold jm_sv
      rw [jx_prM (jx_me_pq h) hc.2.1.1 hc.2.1.2 (by omega), jx_me_ct h]
    rw [e]
  · rw [if_pos hc, if_pos hc]
theorem jm_if_bd {σ : jw_H} (hP : jm_Pb σ) {k : Int} (k0 : 0 ≤ k) (k1 : k < σ 103 5 + 2 * σ 103 3) : -100 ≤ jm_if σ k ∧ jm_if σ k ≤ 100 := by
  obtain ⟨hq, -, hk, hK, hB, -⟩ := hP
  unfold jm_if
  split
  · have := (hK k k0 (by assumption)).2.1
    omega
  · split
    · omega
    · have := hB (k - σ 103 5 - σ 103 3) (by omega) (by omega)
      omega
theorem jm_slack {n : Nat} {σ : jw_H} {C : List (ge_R × Int)} (hKN : jm_KN σ C) {i k t : Int} (hi : jw_rg i) (hk : jw_rg k) (ht : jw_rg t) : jw_T (js_S n) 4 309 [.inr (.inr 103), .inl i, .inl k, .inl t] σ (fun r σ' => r = some (.inr (.inl (jm_sla σ i k t))) ∧ σ' = σ) := by
  refine jw_T_of (D := 3) (M := mm_309) rfl (Nat.le_of_ble_eq_true rfl) (ls0 := [some (.inr (.inr 103)), some (.inl i), some (.inl k), some (.inl t), none, none]) rfl ?_ (by rintro _ _ ⟨rfl, -⟩; rfl)
  have hcb := (jm_kw_cbd hKN.1).2 σ (jm_fk_rf σ)
  have hcn := hcb.1
  have hPm := hKN.1.1
  have hqq := hPm.1
  have hww := hPm.2.1
  have hkk := hPm.2.2.1
  have hg57 := hKN.2.2.1.1
  have hg58 := hKN.2.2.2.1.1
  have rhk := hk
  unfold jw_rg at rhk
  have rht := ht
  unfold jw_rg at rht
  refine jw_W_n 2 (i' := 2) (ls' := [some (.inr (.inr 103)), some (.inl i), some (.inl k), some (.inl t), none, none]) (st' := [.inl i, .inr (.inr 103)]) rfl ?_
  refine jw_W_call (as := [.inr (.inr 103), .inl i]) (rest := []) rfl rfl rfl rfl (Nat.le_of_ble_eq_true rfl) (.inr rfl) (jm_isCorner hcb hi) (by omega) ?_ rfl
  rintro r1 σz (⟨rfl, hs, q1⟩ | ⟨rfl, hs, q1⟩)
  · rw [hs]
    show jw_W (js_S n) _ md_309 3 [some (.inr (.inr 103)), some (.inl i), some (.inl k), some (.inl t), none, none] [.inl 1] σ _
    refine jw_W_if rfl (by unfold jw_rg; omega) (fun hc1 => ?_) (fun hc1 => ?_)
    · exact absurd hc1 (show ¬ ((1 : Int) = 0) by omega)
    · clear hc1
      refine jw_W_n 3 (i' := 7) (ls' := [some (.inr (.inr 103)), some (.inl i), some (.inl k), some (.inl t), none, none]) (st' := [.inr (.inr 103), .inl 0, .inl k]) rfl ?_
      refine jw_W_call (as := [.inr (.inr 103)]) (rest := [.inl 0, .inl k]) rfl rfl rfl rfl (Nat.le_of_ble_eq_true rfl) (.inr rfl) (jm_planes hPm) (by omega) ?_ rfl
      rintro r1 σz ⟨rfl, hs⟩
      rw [hs]
      show jw_W (js_S n) _ md_309 8 [some (.inr (.inr 103)), some (.inl i), some (.inl k), some (.inl t), none, none] [.inl (σ 103 5 + 2 * σ 103 3), .inl 0, .inl k] σ _
      refine jw_W_n 2 (i' := 10) (ls' := [some (.inr (.inr 103)), some (.inl i), some (.inl k), some (.inl t), none, none]) (st' := [.inl ((σ 103 5 + 2 * σ 103 3) - 1), .inl 0, .inl k]) rfl ?_
      refine jw_W_call (as := [.inl k, .inl 0, .inl ((σ 103 5 + 2 * σ 103 3) - 1)]) (rest := []) rfl rfl rfl rfl (Nat.le_of_ble_eq_true rfl) (.inl rfl) (jm_in (by unfold jw_rg; omega) (by unfold jw_rg; omega) (by unfold jw_rg; omega)) (by omega) ?_ rfl
      rintro r1 σz (⟨rfl, hs, q2⟩ | ⟨rfl, hs, q2⟩)
      · rw [hs]
        show jw_W (js_S n) _ md_309 11 [some (.inr (.inr 103)), some (.inl i), some (.inl k), some (.inl t), none, none] [.inl 1] σ _
        refine jw_W_if rfl (by unfold jw_rg; omega) (fun hc2 => ?_) (fun hc2 => ?_)
        · exact absurd hc2 (show ¬ ((1 : Int) = 0) by omega)
        · clear hc2
          refine jw_W_n 3 (i' := 15) (ls' := [some (.inr (.inr 103)), some (.inl i), some (.inl k), some (.inl t), none, none]) (st' := [.inl 1, .inl 0, .inl t]) rfl ?_
          refine jw_W_call (as := [.inl t, .inl 0, .inl 1]) (rest := []) rfl rfl rfl rfl (Nat.le_of_ble_eq_true rfl) (.inl rfl) (jm_in (by unfold jw_rg; omega) (by unfold jw_rg; omega) (by unfold jw_rg; omega)) (by omega) ?_ rfl
          rintro r1 σz (⟨rfl, hs, q3⟩ | ⟨rfl, hs, q3⟩)
          · rw [hs]
            show jw_W (js_S n) _ md_309 16 [some (.inr (.inr 103)), some (.inl i), some (.inl k), some (.inl t), none, none] [.inl 1] σ _
            refine jw_W_if rfl (by unfold jw_rg; omega) (fun hc3 => ?_) (fun hc3 => ?_)
            · clear hc3
              refine jw_W_n 3 (i' := 22) (ls' := [some (.inr (.inr 103)), some (.inl i), some (.inl k), some (.inl t), none, none]) (st' := [.inl 0, .inl k, .inr (.inr 103)]) rfl ?_
              refine jw_W_call (as := [.inr (.inr 103), .inl k, .inl 0]) (rest := []) rfl rfl rfl rfl (Nat.le_of_ble_eq_true rfl) (.inr rfl) (jm_planeOf hPm (by omega) (by omega) (by omega) (by omega)) (by omega) ?_ rfl
              rintro r1 σz ⟨rfl, hs⟩
              rw [hs]
              have hpf0 := jm_pf_sm hPm (k := k) (j := 0) (by omega) (by omega) (by omega)
              show jw_W (js_S n) _ md_309 23 [some (.inr (.inr 103)), some (.inl i), some (.inl k), some (.inl t), none, none] [.inl (jm_pf σ k 0)] σ _
              refine jw_W_i2l rfl (by unfold jw_rg; omega) ?_
              refine jw_W_n 1 (i' := 25) (ls' := [some (.inr (.inr 103)), some (.inl i), some (.inl k), some (.inl t), none, none]) (st' := [.inr (.inr 103), .inr (.inl (jm_pf σ k 0))]) rfl ?_
              refine jw_W_gf rfl rfl rfl ?_
              show jw_W (js_S n) _ md_309 26 [some (.inr (.inr 103)), some (.inl i), some (.inl k), some (.inl t), none, none] [.inr (.inr 132), .inr (.inl (jm_pf σ k 0))] σ _
              refine jw_W_n 1 (i' := 27) (ls' := [some (.inr (.inr 103)), some (.inl i), some (.inl k), some (.inl t), none, none]) (st' := [.inl i, .inr (.inr 132), .inr (.inl (jm_pf σ k 0))]) rfl ?_
              refine jw_W_la rfl rfl (by omega) (by omega) (by omega) ?_
              show jw_W (js_S n) _ md_309 28 [some (.inr (.inr 103)), some (.inl i), some (.inl k), some (.inl t), none, none] [.inr (.inl (σ 132 i)), .inr (.inl (jm_pf σ k 0))] σ _
              refine jw_W_n 4 (i' := 32) (ls' := [some (.inr (.inr 103)), some (.inl i), some (.inl k), some (.inl t), none, none]) (st' := [.inl 1, .inl k, .inr (.inr 103), .inr (.inl ((jm_pf σ k 0) * (σ 132 i)))]) rfl ?_
              refine jw_W_call (as := [.inr (.inr 103), .inl k, .inl 1]) (rest := [.inr (.inl ((jm_pf σ k 0) * (σ 132 i)))]) rfl rfl rfl rfl (Nat.le_of_ble_eq_true rfl) (.inr rfl) (jm_planeOf hPm (by omega) (by omega) (by omega) (by omega)) (by omega) ?_ rfl
              rintro r1 σz ⟨rfl, hs⟩
              rw [hs]
              have hpf1 := jm_pf_sm hPm (k := k) (j := 1) (by omega) (by omega) (by omega)
              show jw_W (js_S n) _ md_309 33 [some (.inr (.inr 103)), some (.inl i), some (.inl k), some (.inl t), none, none] [.inl (jm_pf σ k 1), .inr (.inl ((jm_pf σ k 0) * (σ 132 i)))] σ _
              refine jw_W_i2l rfl (by unfold jw_rg; omega) ?_
              refine jw_W_n 1 (i' := 35) (ls' := [some (.inr (.inr 103)), some (.inl i), some (.inl k), some (.inl t), none, none]) (st' := [.inr (.inr 103), .inr (.inl (jm_pf σ k 1)), .inr (.inl ((jm_pf σ k 0) * (σ 132 i)))]) rfl ?_
              refine jw_W_gf rfl rfl rfl ?_
              show jw_W (js_S n) _ md_309 36 [some (.inr (.inr 103)), some (.inl i), some (.inl k), some (.inl t), none, none] [.inr (.inr 133), .inr (.inl (jm_pf σ k 1)), .inr (.inl ((jm_pf σ k 0) * (σ 132 i)))] σ _
              refine jw_W_n 1 (i' := 37) (ls' := [some (.inr (.inr 103)), some (.inl i), some (.inl k), some (.inl t), none, none]) (st' := [.inl i, .inr (.inr 133), .inr (.inl (jm_pf σ k 1)), .inr (.inl ((jm_pf σ k 0) * (σ 132 i)))]) rfl ?_
              refine jw_W_la rfl rfl (by omega) (by omega) (by omega) ?_
              show jw_W (js_S n) _ md_309 38 [some (.inr (.inr 103)), some (.inl i), some (.inl k), some (.inl t), none, none] [.inr (.inl (σ 133 i)), .inr (.inl (jm_pf σ k 1)), .inr (.inl ((jm_pf σ k 0) * (σ 132 i)))] σ _
              refine jw_W_n 5 (i' := 43) (ls' := [some (.inr (.inr 103)), some (.inl i), some (.inl k), some (.inl t), none, none]) (st' := [.inl 2, .inl k, .inr (.inr 103), .inr (.inl (((jm_pf σ k 0) * (σ 132 i)) + ((jm_pf σ k 1) * (σ 133 i))))]) rfl ?_
              refine jw_W_call (as := [.inr (.inr 103), .inl k, .inl 2]) (rest := [.inr (.inl (((jm_pf σ k 0) * (σ 132 i)) + ((jm_pf σ k 1) * (σ 133 i))))]) rfl rfl rfl rfl (Nat.le_of_ble_eq_true rfl) (.inr rfl) (jm_planeOf hPm (by omega) (by omega) (by omega) (by omega)) (by omega) ?_ rfl
              rintro r1 σz ⟨rfl, hs⟩
              rw [hs]
              have hpf2 := jm_pf_sm hPm (k := k) (j := 2) (by omega) (by omega) (by omega)
              show jw_W (js_S n) _ md_309 44 [some (.inr (.inr 103)), some (.inl i), some (.inl k), some (.inl t), none, none] [.inl (jm_pf σ k 2), .inr (.inl (((jm_pf σ k 0) * (σ 132 i)) + ((jm_pf σ k 1) * (σ 133 i))))] σ _
              refine jw_W_i2l rfl (by unfold jw_rg; omega) ?_
              refine jw_W_n 1 (i' := 46) (ls' := [some (.inr (.inr 103)), some (.inl i), some (.inl k), some (.inl t), none, none]) (st' := [.inr (.inr 103), .inr (.inl (jm_pf σ k 2)), .inr (.inl (((jm_pf σ k 0) * (σ 132 i)) + ((jm_pf σ k 1) * (σ 133 i))))]) rfl ?_
              refine jw_W_gf rfl rfl rfl ?_
              show jw_W (js_S n) _ md_309 47 [some (.inr (.inr 103)), some (.inl i), some (.inl k), some (.inl t), none, none] [.inr (.inr 134), .inr (.inl (jm_pf σ k 2)), .inr (.inl (((jm_pf σ k 0) * (σ 132 i)) + ((jm_pf σ k 1) * (σ 133 i))))] σ _
              refine jw_W_n 1 (i' := 48) (ls' := [some (.inr (.inr 103)), some (.inl i), some (.inl k), some (.inl t), none, none]) (st' := [.inl i, .inr (.inr 134), .inr (.inl (jm_pf σ k 2)), .inr (.inl (((jm_pf σ k 0) * (σ 132 i)) + ((jm_pf σ k 1) * (σ 133 i))))]) rfl ?_
              refine jw_W_la rfl rfl (by omega) (by omega) (by omega) ?_
              show jw_W (js_S n) _ md_309 49 [some (.inr (.inr 103)), some (.inl i), some (.inl k), some (.inl t), none, none] [.inr (.inl (σ 134 i)), .inr (.inl (jm_pf σ k 2)), .inr (.inl (((jm_pf σ k 0) * (σ 132 i)) + ((jm_pf σ k 1) * (σ 133 i))))] σ _
              refine jw_W_n 4 (i' := 53) (ls' := [some (.inr (.inr 103)), some (.inl i), some (.inl k), some (.inl t), none, none]) (st' := [.inl k, .inr (.inr 103), .inr (.inl ((((jm_pf σ k 0) * (σ 132 i)) + ((jm_pf σ k 1) * (σ 133 i))) + ((jm_pf σ k 2) * (σ 134 i))))]) rfl ?_
              refine jw_W_call (as := [.inr (.inr 103), .inl k]) (rest := [.inr (.inl ((((jm_pf σ k 0) * (σ 132 i)) + ((jm_pf σ k 1) * (σ 133 i))) + ((jm_pf σ k 2) * (σ 134 i))))]) rfl rfl rfl rfl (Nat.le_of_ble_eq_true rfl) (.inr rfl) (jm_planeIs hPm (by omega) (by omega)) (by omega) ?_ rfl
              rintro r1 σz ⟨rfl, hs⟩
              rw [hs]
              have hif := jm_if_bd hPm (k := k) (by omega) (by omega)
              show jw_W (js_S n) _ md_309 54 [some (.inr (.inr 103)), some (.inl i), some (.inl k), some (.inl t), none, none] [.inl (jm_if σ k), .inr (.inl ((((jm_pf σ k 0) * (σ 132 i)) + ((jm_pf σ k 1) * (σ 133 i))) + ((jm_pf σ k 2) * (σ 134 i))))] σ _
              refine jw_W_i2l rfl (by unfold jw_rg; omega) ?_
              refine jw_W_n 1 (i' := 56) (ls' := [some (.inr (.inr 103)), some (.inl i), some (.inl k), some (.inl t), none, none]) (st' := [.inr (.inr 103), .inr (.inl (jm_if σ k)), .inr (.inl ((((jm_pf σ k 0) * (σ 132 i)) + ((jm_pf σ k 1) * (σ 133 i))) + ((jm_pf σ k 2) * (σ 134 i))))]) rfl ?_
              refine jw_W_gf rfl rfl rfl ?_
              show jw_W (js_S n) _ md_309 57 [some (.inr (.inr 103)), some (.inl i), some (.inl k), some (.inl t), none, none] [.inr (.inr 135), .inr (.inl (jm_if σ k)), .inr (.inl ((((jm_pf σ k 0) * (σ 132 i)) + ((jm_pf σ k 1) * (σ 133 i))) + ((jm_pf σ k 2) * (σ 134 i))))] σ _
              refine jw_W_n 1 (i' := 58) (ls' := [some (.inr (.inr 103)), some (.inl i), some (.inl k), some (.inl t), none, none]) (st' := [.inl i, .inr (.inr 135), .inr (.inl (jm_if σ k)), .inr (.inl ((((jm_pf σ k 0) * (σ 132 i)) + ((jm_pf σ k 1) * (σ 133 i))) + ((jm_pf σ k 2) * (σ 134 i))))]) rfl ?_
              refine jw_W_la rfl rfl (by omega) (by omega) (by omega) ?_
              show jw_W (js_S n) _ md_309 59 [some (.inr (.inr 103)), some (.inl i), some (.inl k), some (.inl t), none, none] [.inr (.inl (σ 135 i)), .inr (.inl (jm_if σ k)), .inr (.inl ((((jm_pf σ k 0) * (σ 132 i)) + ((jm_pf σ k 1) * (σ 133 i))) + ((jm_pf σ k 2) * (σ 134 i))))] σ _
              refine jw_W_n 2 (i' := 61) (ls' := [some (.inr (.inr 103)), some (.inl i), some (.inl k), some (.inl t), none, none]) (st' := [.inr (.inl (((((jm_pf σ k 0) * (σ 132 i)) + ((jm_pf σ k 1) * (σ 133 i))) + ((jm_pf σ k 2) * (σ 134 i))) - ((jm_if σ k) * (σ 135 i))))]) rfl ?_
              have esv : ((((jm_pf σ k 0) * (σ 132 i)) + ((jm_pf σ k 1) * (σ 133 i))) + ((jm_pf σ k 2) * (σ 134 i))) - ((jm_if σ k) * (σ 135 i)) = jm_sv σ i k := rfl
              rw [esv]
              have hsv := jm_sv_bd hPm hcb (i := i) (k := k) (by omega) (by omega) (by omega) (by omega)
              have hcw := jm_cw hcb (i := i) (by omega) (by omega)
              have hcw2 : σ 135 i ≤ 162 := (hcb.2 i (by omega) (by omega)).2
              refine jw_W_n 3 (i' := 64) (ls' := [some (.inr (.inr 103)), some (.inl i), some (.inl k), some (.inl t), some (.inr (.inl (jm_sv σ i k))), none]) (st' := [.inr (.inl 0), .inr (.inl (jm_sv σ i k))]) rfl ?_
              refine jw_W_lc rfl rfl (by unfold jw_rgl; omega) (by unfold jw_rgl; omega) (fun hc4 => ?_) (fun hc4 => ?_)
              · have hc4 : (jm_sv σ i k) ≥ 0 := hc4
                refine jw_W_n 2 (i' := 71) (ls' := [some (.inr (.inr 103)), some (.inl i), some (.inl k), some (.inl t), some (.inr (.inl (jm_sv σ i k))), none]) (st' := [.inr (.inr 103), .inr (.inl (jm_sv σ i k))]) rfl ?_
                refine jw_W_gf rfl rfl rfl ?_
                show jw_W (js_S n) _ md_309 72 [some (.inr (.inr 103)), some (.inl i), some (.inl k), some (.inl t), some (.inr (.inl (jm_sv σ i k))), none] [.inr (.inr 135), .inr (.inl (jm_sv σ i k))] σ _
                refine jw_W_n 1 (i' := 73) (ls' := [some (.inr (.inr 103)), some (.inl i), some (.inl k), some (.inl t), some (.inr (.inl (jm_sv σ i k))), none]) (st' := [.inl i, .inr (.inr 135), .inr (.inl (jm_sv σ i k))]) rfl ?_
                refine jw_W_la rfl rfl (by omega) (by omega) (by omega) ?_
                show jw_W (js_S n) _ md_309 74 [some (.inr (.inr 103)), some (.inl i), some (.inl k), some (.inl t), some (.inr (.inl (jm_sv σ i k))), none] [.inr (.inl (σ 135 i)), .inr (.inl (jm_sv σ i k))] σ _
                refine jw_W_n 1 (i' := 75) (ls' := [some (.inr (.inr 103)), some (.inl i), some (.inl k), some (.inl t), some (.inr (.inl (jm_sv σ i k))), none]) (st' := [.inl t, .inr (.inl (σ 135 i)), .inr (.inl (jm_sv σ i k))]) rfl ?_
                refine jw_W_call (as := [.inr (.inl (jm_sv σ i k)), .inr (.inl (σ 135 i)), .inl t]) (rest := []) rfl rfl rfl rfl (Nat.le_of_ble_eq_true rfl) (.inl rfl) (jm_ofFr (by unfold jm_bg; omega) (by omega) (by omega) (by unfold jw_rg; omega)) (by omega) ?_ rfl
                rintro r1 σz ⟨rfl, hs⟩
                rw [hs]
                show jw_W (js_S n) _ md_309 76 [some (.inr (.inr 103)), some (.inl i), some (.inl k), some (.inl t), some (.inr (.inl (jm_sv σ i k))), none] [.inr (.inl (jm_of (jm_sv σ i k) (σ 135 i) t))] σ _
                refine jw_W_lr rfl ?_
                exact ⟨by unfold jm_sla; rw [if_neg (by omega)]; first | rw [if_neg (by omega)] | rw [if_pos (by omega)], rfl⟩
              · have hc4 : ¬ ((jm_sv σ i k) ≥ 0) := hc4
                refine jw_W_n 4 (i' := 71) (ls' := [some (.inr (.inr 103)), some (.inl i), some (.inl k), some (.inl t), some (.inr (.inl (jm_sv σ i k))), none]) (st' := [.inr (.inr 103), .inr (.inl ((-(jm_sv σ i k))))]) rfl ?_
                refine jw_W_gf rfl rfl rfl ?_
                show jw_W (js_S n) _ md_309 72 [some (.inr (.inr 103)), some (.inl i), some (.inl k), some (.inl t), some (.inr (.inl (jm_sv σ i k))), none] [.inr (.inr 135), .inr (.inl ((-(jm_sv σ i k))))] σ _
                refine jw_W_n 1 (i' := 73) (ls' := [some (.inr (.inr 103)), some (.inl i), some (.inl k), some (.inl t), some (.inr (.inl (jm_sv σ i k))), none]) (st' := [.inl i, .inr (.inr 135), .inr (.inl ((-(jm_sv σ i k))))]) rfl ?_
                refine jw_W_la rfl rfl (by omega) (by omega) (by omega) ?_
                show jw_W (js_S n) _ md_309 74 [some (.inr (.inr 103)), some (.inl i), some (.inl k), some (.inl t), some (.inr (.inl (jm_sv σ i k))), none] [.inr (.inl (σ 135 i)), .inr (.inl ((-(jm_sv σ i k))))] σ _
                refine jw_W_n 1 (i' := 75) (ls' := [some (.inr (.inr 103)), some (.inl i), some (.inl k), some (.inl t), some (.inr (.inl (jm_sv σ i k))), none]) (st' := [.inl t, .inr (.inl (σ 135 i)), .inr (.inl ((-(jm_sv σ i k))))]) rfl ?_
                refine jw_W_call (as := [.inr (.inl ((-(jm_sv σ i k)))), .inr (.inl (σ 135 i)), .inl t]) (rest := []) rfl rfl rfl rfl (Nat.le_of_ble_eq_true rfl) (.inl rfl) (jm_ofFr (by unfold jm_bg; omega) (by omega) (by omega) (by unfold jw_rg; omega)) (by omega) ?_ rfl
                rintro r1 σz ⟨rfl, hs⟩
                rw [hs]
                show jw_W (js_S n) _ md_309 76 [some (.inr (.inr 103)), some (.inl i), some (.inl k), some (.inl t), some (.inr (.inl (jm_sv σ i k))), none] [.inr (.inl (jm_of (-(jm_sv σ i k)) (σ 135 i) t))] σ _
                refine jw_W_lr rfl ?_
                exact ⟨by unfold jm_sla; rw [if_neg (by omega)]; first | rw [if_neg (by omega)] | rw [if_pos (by omega)], rfl⟩
            · exact absurd hc3 (show ¬ ¬ ((1 : Int) ≠ 0) by omega)
          · rw [hs]
            show jw_W (js_S n) _ md_309 16 [some (.inr (.inr 103)), some (.inl i), some (.inl k), some (.inl t), none, none] [.inl 0] σ _
            refine jw_W_if rfl (by unfold jw_rg; omega) (fun hc5 => ?_) (fun hc5 => ?_)
            · exact absurd hc5 (show ¬ ((0 : Int) ≠ 0) by omega)
            · clear hc5
              refine jw_W_ld2 (z := (-1)) rfl rfl ?_
              refine jw_W_lr rfl ?_
              exact ⟨by unfold jm_sla; rw [if_pos (by omega)], rfl⟩
      · rw [hs]
        show jw_W (js_S n) _ md_309 11 [some (.inr (.inr 103)), some (.inl i), some (.inl k), some (.inl t), none, none] [.inl 0] σ _
        refine jw_W_if rfl (by unfold jw_rg; omega) (fun hc6 => ?_) (fun hc6 => ?_)
        · clear hc6
          refine jw_W_ld2 (z := (-1)) rfl rfl ?_
          refine jw_W_lr rfl ?_
          exact ⟨by unfold jm_sla; rw [if_pos (by omega)], rfl⟩
        · exact absurd hc6 (show ¬ ¬ ((0 : Int) = 0) by omega)
  · rw [hs]
    show jw_W (js_S n) _ md_309 3 [some (.inr (.inr 103)), some (.inl i), some (.inl k), some (.inl t), none, none] [.inl 0] σ _
    refine jw_W_if rfl (by unfold jw_rg; omega) (fun hc7 => ?_) (fun hc7 => ?_)
    · clear hc7
      refine jw_W_ld2 (z := (-1)) rfl rfl ?_
      refine jw_W_lr rfl ?_
      exact ⟨by unfold jm_sla; rw [if_pos (by omega)], rfl⟩
    · exact absurd hc7 (show ¬ ¬ ((0 : Int) = 0) by omega)
theorem jx_slack {n : Nat} {σ : jw_H} {o : Nat} {C : List (ge_R × Int)} (hK : jx_K n o C σ) {i k t : Int} (hi : jw_rg i) (hk : jw_rg k) (ht : jw_rg t) : jw_T (js_S n) 4 143 [.inr (.inr 13), .inl i, .inl k, .inl t] σ (fun r σ' => r = some (.inr (.inl (jm_sla σ i k t))) ∧ jx_fy σ σ') := by
  refine jw_T_of (D := 3) (M := mm_143) rfl (Nat.le_of_ble_eq_true rfl) (ls0 := [some (.inr (.inr 13)), some (.inl i), some (.inl k), some (.inl t), none]) rfl ?_ (by rintro _ _ ⟨rfl, -⟩; rfl)
  have hI := hK.1
  obtain ⟨hto, hfo, hp, hP, e0, e1, e2, hPm, hcb, c0, p0, -⟩ := jx_I0_x hI
  have ho := hp.1
  have hq := hP.1
  have hw := hP.2.1
  have hq2 := hP.2.2.1
  have hcn := hcb.1
  have rhk := hk
  unfold jw_rg at rhk
  have rht := ht
  unfold jw_rg at rht
  refine jw_W_n 2 (i' := 2) (ls' := [some (.inr (.inr 13)), some (.inl i), some (.inl k), some (.inl t), none]) (st' := [.inl i, .inr (.inr 13)]) rfl ?_
  refine jw_W_call (as := [.inr (.inr 13), .inl i]) (rest := []) rfl rfl rfl rfl (Nat.le_of_ble_eq_true rfl) (.inr rfl) (jx_isCorner hK hi) (by omega) ?_ rfl
  rintro r1 σz (⟨rfl, hs, q4⟩ | ⟨rfl, hs, q4⟩)
  · rw [hs]
    show jw_W (js_S n) _ md_143 3 [some (.inr (.inr 13)), some (.inl i), some (.inl k), some (.inl t), none] [.inl 1] σ _
    refine jw_W_if rfl (by unfold jw_rg; omega) (fun hc1 => ?_) (fun hc1 => ?_)
    · exact absurd hc1 (show ¬ ((1 : Int) = 0) by omega)
    · clear hc1
      refine jw_W_n 2 (i' := 6) (ls' := [some (.inr (.inr 13)), some (.inl i), some (.inl k), some (.inl t), none]) (st' := [.inl k, .inr (.inr 13)]) rfl ?_
      refine jw_W_call (as := [.inr (.inr 13), .inl k]) (rest := []) rfl rfl rfl rfl (Nat.le_of_ble_eq_true rfl) (.inr rfl) (jx_isPlane hK hk) (by omega) ?_ rfl
      rintro r1 σz (⟨rfl, hs, q5⟩ | ⟨rfl, hs, q5⟩)
      · rw [hs]
        show jw_W (js_S n) _ md_143 7 [some (.inr (.inr 13)), some (.inl i), some (.inl k), some (.inl t), none] [.inl 1] σ _
        refine jw_W_if rfl (by unfold jw_rg; omega) (fun hc2 => ?_) (fun hc2 => ?_)
        · exact absurd hc2 (show ¬ ((1 : Int) = 0) by omega)
        · clear hc2
          refine jw_W_n 2 (i' := 10) (ls' := [some (.inr (.inr 13)), some (.inl i), some (.inl k), some (.inl t), none]) (st' := [.inl t, .inr (.inr 13)]) rfl ?_
          refine jw_W_call (as := [.inr (.inr 13), .inl t]) (rest := []) rfl rfl rfl rfl (Nat.le_of_ble_eq_true rfl) (.inr rfl) (jx_isPart hK ht) (by omega) ?_ rfl
          rintro r1 σz (⟨rfl, hs, q6⟩ | ⟨rfl, hs, q6⟩)
          · rw [hs]
            show jw_W (js_S n) _ md_143 11 [some (.inr (.inr 13)), some (.inl i), some (.inl k), some (.inl t), none] [.inl 1] σ _
            refine jw_W_if rfl (by unfold jw_rg; omega) (fun hc3 => ?_) (fun hc3 => ?_)
            · clear hc3
              refine jw_W_n 1 (i' := 15) (ls' := [some (.inr (.inr 13)), some (.inl i), some (.inl k), some (.inl t), none]) (st' := [.inr (.inr 13)]) rfl ?_
              refine jw_W_gf rfl rfl rfl ?_
              show jw_W (js_S n) _ md_143 16 [some (.inr (.inr 13)), some (.inl i), some (.inl k), some (.inl t), none] [.inr (.inr 57)] σ _
              refine jw_W_gf rfl rfl rfl ?_
              show jw_W (js_S n) _ md_143 17 [some (.inr (.inr 13)), some (.inl i), some (.inl k), some (.inl t), none] [.inr (.inr 58)] σ _
              refine jw_W_n 3 (i' := 20) (ls' := [some (.inr (.inr 13)), some (.inl i), some (.inl k), some (.inl t), some (.inr (.inr 58))]) (st' := [.inr (.inr 13), .inr (.inr 13)]) rfl ?_
              refine jw_W_gf rfl rfl rfl ?_
              show jw_W (js_S n) _ md_143 21 [some (.inr (.inr 13)), some (.inl i), some (.inl k), some (.inl t), some (.inr (.inr 58))] [.inr (.inr ((σ 13 2).toNat)), .inr (.inr 13)] σ _
              rw [hto]
              refine jw_W_n 2 (i' := 23) (ls' := [some (.inr (.inr 13)), some (.inl i), some (.inl k), some (.inl t), some (.inr (.inr 58))]) (st' := [.inr (.inr 58), .inl k, .inr (.inr o), .inr (.inr 13)]) rfl ?_
              refine jw_W_gf rfl rfl rfl ?_
              show jw_W (js_S n) _ md_143 24 [some (.inr (.inr 13)), some (.inl i), some (.inl k), some (.inl t), some (.inr (.inr 58))] [.inr (.inr 59), .inl k, .inr (.inr o), .inr (.inr 13)] σ _
              refine jw_W_n 1 (i' := 25) (ls' := [some (.inr (.inr 13)), some (.inl i), some (.inl k), some (.inl t), some (.inr (.inr 58))]) (st' := [.inl i, .inr (.inr 59), .inl k, .inr (.inr o), .inr (.inr 13)]) rfl ?_
              refine jw_W_ia rfl rfl (by omega) (by omega) (by omega) ?_
              show jw_W (js_S n) _ md_143 26 [some (.inr (.inr 13)), some (.inl i), some (.inl k), some (.inl t), some (.inr (.inr 58))] [.inl (σ 59 i), .inl k, .inr (.inr o), .inr (.inr 13)] σ _
              refine jw_W_n 1 (i' := 27) (ls' := [some (.inr (.inr 13)), some (.inl i), some (.inl k), some (.inl t), some (.inr (.inr 58))]) (st' := [.inr (.inr 58), .inl (σ 59 i), .inl k, .inr (.inr o), .inr (.inr 13)]) rfl ?_
              refine jw_W_gf rfl rfl rfl ?_
              show jw_W (js_S n) _ md_143 28 [some (.inr (.inr 13)), some (.inl i), some (.inl k), some (.inl t), some (.inr (.inr 58))] [.inr (.inr 60), .inl (σ 59 i), .inl k, .inr (.inr o), .inr (.inr 13)] σ _
              refine jw_W_n 1 (i' := 29) (ls' := [some (.inr (.inr 13)), some (.inl i), some (.inl k), some (.inl t), some (.inr (.inr 58))]) (st' := [.inl i, .inr (.inr 60), .inl (σ 59 i), .inl k, .inr (.inr o), .inr (.inr 13)]) rfl ?_
              refine jw_W_ia rfl rfl (by omega) (by omega) (by omega) ?_
              show jw_W (js_S n) _ md_143 30 [some (.inr (.inr 13)), some (.inl i), some (.inl k), some (.inl t), some (.inr (.inr 58))] [.inl (σ 60 i), .inl (σ 59 i), .inl k, .inr (.inr o), .inr (.inr 13)] σ _
              refine jw_W_n 1 (i' := 31) (ls' := [some (.inr (.inr 13)), some (.inl i), some (.inl k), some (.inl t), some (.inr (.inr 58))]) (st' := [.inr (.inr 58), .inl (σ 60 i), .inl (σ 59 i), .inl k, .inr (.inr o), .inr (.inr 13)]) rfl ?_
              refine jw_W_gf rfl rfl rfl ?_
              show jw_W (js_S n) _ md_143 32 [some (.inr (.inr 13)), some (.inl i), some (.inl k), some (.inl t), some (.inr (.inr 58))] [.inr (.inr 61), .inl (σ 60 i), .inl (σ 59 i), .inl k, .inr (.inr o), .inr (.inr 13)] σ _
              refine jw_W_n 1 (i' := 33) (ls' := [some (.inr (.inr 13)), some (.inl i), some (.inl k), some (.inl t), some (.inr (.inr 58))]) (st' := [.inl i, .inr (.inr 61), .inl (σ 60 i), .inl (σ 59 i), .inl k, .inr (.inr o), .inr (.inr 13)]) rfl ?_
              refine jw_W_ia rfl rfl (by omega) (by omega) (by omega) ?_
              show jw_W (js_S n) _ md_143 34 [some (.inr (.inr 13)), some (.inl i), some (.inl k), some (.inl t), some (.inr (.inr 58))] [.inl (σ 61 i), .inl (σ 60 i), .inl (σ 59 i), .inl k, .inr (.inr o), .inr (.inr 13)] σ _
              refine jw_W_n 1 (i' := 35) (ls' := [some (.inr (.inr 13)), some (.inl i), some (.inl k), some (.inl t), some (.inr (.inr 58))]) (st' := [.inr (.inr 58), .inl (σ 61 i), .inl (σ 60 i), .inl (σ 59 i), .inl k, .inr (.inr o), .inr (.inr 13)]) rfl ?_
              refine jw_W_gf rfl rfl rfl ?_
              show jw_W (js_S n) _ md_143 36 [some (.inr (.inr 13)), some (.inl i), some (.inl k), some (.inl t), some (.inr (.inr 58))] [.inr (.inr 62), .inl (σ 61 i), .inl (σ 60 i), .inl (σ 59 i), .inl k, .inr (.inr o), .inr (.inr 13)] σ _
              refine jw_W_n 1 (i' := 37) (ls' := [some (.inr (.inr 13)), some (.inl i), some (.inl k), some (.inl t), some (.inr (.inr 58))]) (st' := [.inl i, .inr (.inr 62), .inl (σ 61 i), .inl (σ 60 i), .inl (σ 59 i), .inl k, .inr (.inr o), .inr (.inr 13)]) rfl ?_
              refine jw_W_ia rfl rfl (by omega) (by omega) (by omega) ?_
              show jw_W (js_S n) _ md_143 38 [some (.inr (.inr 13)), some (.inl i), some (.inl k), some (.inl t), some (.inr (.inr 58))] [.inl (σ 62 i), .inl (σ 61 i), .inl (σ 60 i), .inl (σ 59 i), .inl k, .inr (.inr o), .inr (.inr 13)] σ _
              refine jw_W_call (as := [.inr (.inr o), .inl k, .inl (σ 59 i), .inl (σ 60 i), .inl (σ 61 i), .inl (σ 62 i)]) (rest := [.inr (.inr 13)]) rfl rfl rfl rfl (Nat.le_of_ble_eq_true rfl) (.inr (jx_rc hp.2.1)) (jx_over hp hP (by omega) (by omega)) (by omega) ?_ rfl
              rintro r1 σz ⟨rfl, hs⟩
              rw [hs, show ge_s (jx_pr (jx_M σ o) k) (σ 59 i, σ 60 i, σ 61 i, σ 62 i) = jm_sv σ i k by rw [jx_prM hI.1.2.2.2 (by omega) (by omega) (by omega)]; unfold jm_sv; rw [← (jx_I0_c hI (show 0 ≤ i by omega) (show i < σ 103 56 by omega)).1]; rfl]
              have hsv := jm_sv_bd hPm hcb (i := i) (k := k) (by omega) (by omega) (by omega) (by omega)
              have hcw := jm_cw hcb (i := i) (by omega) (by omega)
              have hcw2 : σ 135 i ≤ 162 := (hcb.2 i (by omega) (by omega)).2
              have e62 : σ 62 i = σ 135 i := congrArg (fun v : ge_R => v.2.2.2) (jx_I0_c hI (show 0 ≤ i by omega) (show i < σ 103 56 by omega)).1
              show jw_W (js_S n) _ md_143 39 [some (.inr (.inr 13)), some (.inl i), some (.inl k), some (.inl t), some (.inr (.inr 58))] [.inl (jm_sv σ i k), .inr (.inr 13)] σ _
              refine jw_W_abs rfl rfl (by unfold jw_rg; omega) (Nat.le_of_ble_eq_true rfl) ?_
              have habs : 0 ≤ (if 0 ≤ jm_sv σ i k then jm_sv σ i k else -jm_sv σ i k) ∧ (if 0 ≤ jm_sv σ i k then jm_sv σ i k else -jm_sv σ i k) ≤ 1000000 := by split <;> omega
              refine jw_W_i2l rfl (by unfold jw_rg; omega) ?_
              refine jw_W_n 1 (i' := 42) (ls' := [some (.inr (.inr 13)), some (.inl i), some (.inl k), some (.inl t), some (.inr (.inr 58))]) (st' := [.inr (.inr 58), .inr (.inl (if 0 ≤ jm_sv σ i k then jm_sv σ i k else -(jm_sv σ i k))), .inr (.inr 13)]) rfl ?_
              refine jw_W_gf rfl rfl rfl ?_
              show jw_W (js_S n) _ md_143 43 [some (.inr (.inr 13)), some (.inl i), some (.inl k), some (.inl t), some (.inr (.inr 58))] [.inr (.inr 62), .inr (.inl (if 0 ≤ jm_sv σ i k then jm_sv σ i k else -(jm_sv σ i k))), .inr (.inr 13)] σ _
              refine jw_W_n 1 (i' := 44) (ls' := [some (.inr (.inr 13)), some (.inl i), some (.inl k), some (.inl t), some (.inr (.inr 58))]) (st' := [.inl i, .inr (.inr 62), .inr (.inl (if 0 ≤ jm_sv σ i k then jm_sv σ i k else -(jm_sv σ i k))), .inr (.inr 13)]) rfl ?_
              refine jw_W_ia rfl rfl (by omega) (by omega) (by omega) ?_
              show jw_W (js_S n) _ md_143 45 [some (.inr (.inr 13)), some (.inl i), some (.inl k), some (.inl t), some (.inr (.inr 58))] [.inl (σ 62 i), .inr (.inl (if 0 ≤ jm_sv σ i k then jm_sv σ i k else -(jm_sv σ i k))), .inr (.inr 13)] σ _
              refine jw_W_i2l rfl (by unfold jw_rg; omega) ?_
              refine jw_W_n 1 (i' := 47) (ls' := [some (.inr (.inr 13)), some (.inl i), some (.inl k), some (.inl t), some (.inr (.inr 58))]) (st' := [.inl t, .inr (.inl (σ 62 i)), .inr (.inl (if 0 ≤ jm_sv σ i k then jm_sv σ i k else -(jm_sv σ i k))), .inr (.inr 13)]) rfl ?_
              refine jw_W_call (as := [.inr (.inr 13), .inr (.inl (if 0 ≤ jm_sv σ i k then jm_sv σ i k else -(jm_sv σ i k))), .inr (.inl (σ 62 i)), .inl t]) (rest := []) rfl rfl rfl rfl (Nat.le_of_ble_eq_true rfl) (.inr rfl) (jx_partOf (by unfold jm_bg; omega) (by unfold jm_bg; omega) (by omega) (by unfold jw_rg; omega)) (by omega) ?_ rfl
              rintro r1 σ2 ⟨rfl, hs⟩
              have hf98 : jx_fy σ σ2 := by rw [hs]; exact jx_fy_fs (jx_fy_rf σ) (by omega)
              show jw_W (js_S n) _ md_143 48 [some (.inr (.inr 13)), some (.inl i), some (.inl k), some (.inl t), some (.inr (.inr 58))] [.inr (.inl (if t = 0 then (jx_fr (if 0 ≤ jm_sv σ i k then jm_sv σ i k else -(jm_sv σ i k)) (σ 62 i)).1 else (jx_fr (if 0 ≤ jm_sv σ i k then jm_sv σ i k else -(jm_sv σ i k)) (σ 62 i)).2))] σ2 _
              refine jw_W_lr rfl ?_
              refine ⟨?_, hf98⟩
              have hsl : jm_sla σ i k t = jm_of (if 0 ≤ jm_sv σ i k then jm_sv σ i k else -jm_sv σ i k) (σ 135 i) t := by unfold jm_sla; exact if_neg (by omega)
              rw [jx_fr_j (by omega) (by omega), e62, hsl]
            · exact absurd hc3 (show ¬ ¬ ((1 : Int) ≠ 0) by omega)
          · rw [hs]
            show jw_W (js_S n) _ md_143 11 [some (.inr (.inr 13)), some (.inl i), some (.inl k), some (.inl t), none] [.inl 0] σ _
            refine jw_W_if rfl (by unfold jw_rg; omega) (fun hc4 => ?_) (fun hc4 => ?_)
            · exact absurd hc4 (show ¬ ((0 : Int) ≠ 0) by omega)
            · clear hc4
              refine jw_W_ld2 (z := (-1)) rfl rfl ?_
              refine jw_W_lr rfl ?_
              exact ⟨by unfold jm_sla; rw [if_pos (by omega)], jx_fy_rf σ⟩
      · rw [hs]
        show jw_W (js_S n) _ md_143 7 [some (.inr (.inr 13)), some (.inl i), some (.inl k), some (.inl t), none] [.inl 0] σ _
        refine jw_W_if rfl (by unfold jw_rg; omega) (fun hc5 => ?_) (fun hc5 => ?_)
        · clear hc5
          refine jw_W_ld2 (z := (-1)) rfl rfl ?_
          refine jw_W_lr rfl ?_
          exact ⟨by unfold jm_sla; rw [if_pos (by omega)], jx_fy_rf σ⟩
        · exact absurd hc5 (show ¬ ¬ ((0 : Int) = 0) by omega)
  · rw [hs]
    show jw_W (js_S n) _ md_143 3 [some (.inr (.inr 13)), some (.inl i), some (.inl k), some (.inl t), none] [.inl 0] σ _
    refine jw_W_if rfl (by unfold jw_rg; omega) (fun hc6 => ?_) (fun hc6 => ?_)
    · clear hc6
      refine jw_W_ld2 (z := (-1)) rfl rfl ?_
      refine jw_W_lr rfl ?_
      exact ⟨by unfold jm_sla; rw [if_pos (by omega)], jx_fy_rf σ⟩
    · exact absurd hc6 (show ¬ ¬ ((0 : Int) = 0) by omega)

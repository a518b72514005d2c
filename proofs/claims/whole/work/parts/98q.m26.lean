/-! ===== the reference's first answers ===== -/
def jm_kf (σ : jw_H) (k : Int) : Int := if k < σ 103 5 then σ 105 (5 * k + 4) else if k < σ 103 5 + σ 103 3 then 2 else 3
def jm_if (σ : jw_H) (k : Int) : Int := if k < σ 103 5 then σ 105 (5 * k + 3) else if k < σ 103 5 + σ 103 3 then 0 else σ 106 (k - σ 103 5 - σ 103 3)
theorem jm_planeIs {n : Nat} {σ : jw_H} {k : Int} (hP : jm_Pb σ) (k0 : 0 ≤ k) (k1 : k < σ 103 5 + 2 * σ 103 3) : jw_T (js_S n) 1 227 [.inr (.inr 103), .inl k] σ (fun r σ' => r = some (.inl (jm_if σ k)) ∧ σ' = σ) := by
  refine jw_T_of (D := 0) (M := mm_227) rfl (Nat.le_of_ble_eq_true rfl) (ls0 := [some (.inr (.inr 103)), some (.inl k)]) rfl ?_ (by rintro _ _ ⟨rfl, -⟩; rfl)
  have hq := hP.1
  have hw := hP.2.1
  have hp := hP.2.2.1
  refine jw_W_n 2 (i' := 2) (ls' := [some (.inr (.inr 103)), some (.inl k)]) (st' := [.inr (.inr 103), .inl k]) rfl ?_
  refine jw_W_gf rfl rfl rfl ?_
  show jw_W (js_S n) _ md_227 3 [some (.inr (.inr 103)), some (.inl k)] [.inl (σ 103 5), .inl k] σ _
  refine jw_W_ic rfl (by unfold jw_rg; omega) (by unfold jw_rg; omega) (fun hc1 => ?_) (fun hc1 => ?_)
  · have hc1 : k ≥ (σ 103 5) := hc1
    refine jw_W_n 2 (i' := 15) (ls' := [some (.inr (.inr 103)), some (.inl k)]) (st' := [.inr (.inr 103), .inl k]) rfl ?_
    refine jw_W_gf rfl rfl rfl ?_
    show jw_W (js_S n) _ md_227 16 [some (.inr (.inr 103)), some (.inl k)] [.inl (σ 103 5), .inl k] σ _
    refine jw_W_n 1 (i' := 17) (ls' := [some (.inr (.inr 103)), some (.inl k)]) (st' := [.inr (.inr 103), .inl (σ 103 5), .inl k]) rfl ?_
    refine jw_W_gf rfl rfl rfl ?_
    show jw_W (js_S n) _ md_227 18 [some (.inr (.inr 103)), some (.inl k)] [.inl (σ 103 3), .inl (σ 103 5), .inl k] σ _
    refine jw_W_n 1 (i' := 19) (ls' := [some (.inr (.inr 103)), some (.inl k)]) (st' := [.inl (σ 103 5 + (σ 103 3)), .inl k]) rfl ?_
    refine jw_W_ic rfl (by unfold jw_rg; omega) (by unfold jw_rg; omega) (fun hc2 => ?_) (fun hc2 => ?_)
    · have hc2 : k ≥ (σ 103 5 + (σ 103 3)) := hc2
      refine jw_W_n 1 (i' := 23) (ls' := [some (.inr (.inr 103)), some (.inl k)]) (st' := [.inr (.inr 103)]) rfl ?_
      refine jw_W_gf rfl rfl rfl ?_
      show jw_W (js_S n) _ md_227 24 [some (.inr (.inr 103)), some (.inl k)] [.inr (.inr 106)] σ _
      refine jw_W_n 2 (i' := 26) (ls' := [some (.inr (.inr 103)), some (.inl k)]) (st' := [.inr (.inr 103), .inl k, .inr (.inr 106)]) rfl ?_
      refine jw_W_gf rfl rfl rfl ?_
      show jw_W (js_S n) _ md_227 27 [some (.inr (.inr 103)), some (.inl k)] [.inl (σ 103 5), .inl k, .inr (.inr 106)] σ _
      refine jw_W_n 2 (i' := 29) (ls' := [some (.inr (.inr 103)), some (.inl k)]) (st' := [.inr (.inr 103), .inl (k - (σ 103 5)), .inr (.inr 106)]) rfl ?_
      refine jw_W_gf rfl rfl rfl ?_
      show jw_W (js_S n) _ md_227 30 [some (.inr (.inr 103)), some (.inl k)] [.inl (σ 103 3), .inl (k - (σ 103 5)), .inr (.inr 106)] σ _
      refine jw_W_n 1 (i' := 31) (ls' := [some (.inr (.inr 103)), some (.inl k)]) (st' := [.inl ((k - (σ 103 5)) - (σ 103 3)), .inr (.inr 106)]) rfl ?_
      refine jw_W_ia rfl rfl (by omega) (by omega) (by omega) ?_
      show jw_W (js_S n) _ md_227 32 [some (.inr (.inr 103)), some (.inl k)] [.inl (σ 106 ((k - (σ 103 5)) - (σ 103 3)))] σ _
      refine jw_W_ir rfl ?_
      refine ⟨?_, rfl⟩
      simp only [jm_if]
      first | rw [if_pos (by omega)] | rw [if_neg (by omega), if_pos (by omega)] | rw [if_neg (by omega), if_neg (by omega)]
    · have hc2 : ¬ (k ≥ (σ 103 5 + (σ 103 3))) := hc2
      refine jw_W_n 2 (i' := 32) (ls' := [some (.inr (.inr 103)), some (.inl k)]) (st' := [.inl 0]) rfl ?_
      refine jw_W_ir rfl ?_
      refine ⟨?_, rfl⟩
      simp only [jm_if]
      first | rw [if_pos (by omega)] | rw [if_neg (by omega), if_pos (by omega)] | rw [if_neg (by omega), if_neg (by omega)]
  · have hc1 : ¬ (k ≥ (σ 103 5)) := hc1
    refine jw_W_n 1 (i' := 5) (ls' := [some (.inr (.inr 103)), some (.inl k)]) (st' := [.inr (.inr 103)]) rfl ?_
    refine jw_W_gf rfl rfl rfl ?_
    show jw_W (js_S n) _ md_227 6 [some (.inr (.inr 103)), some (.inl k)] [.inr (.inr 105)] σ _
    refine jw_W_n 5 (i' := 11) (ls' := [some (.inr (.inr 103)), some (.inl k)]) (st' := [.inl ((5 * k) + 3), .inr (.inr 105)]) rfl ?_
    refine jw_W_ia rfl rfl (by omega) (by omega) (by omega) ?_
    show jw_W (js_S n) _ md_227 12 [some (.inr (.inr 103)), some (.inl k)] [.inl (σ 105 ((5 * k) + 3))] σ _
    refine jw_W_n 1 (i' := 32) (ls' := [some (.inr (.inr 103)), some (.inl k)]) (st' := [.inl (σ 105 ((5 * k) + 3))]) rfl ?_
    refine jw_W_ir rfl ?_
    refine ⟨?_, rfl⟩
    simp only [jm_if]
    first | rw [if_pos (by omega)] | rw [if_neg (by omega), if_pos (by omega)] | rw [if_neg (by omega), if_neg (by omega)]
theorem jm_kindOf {n : Nat} {σ : jw_H} {k : Int} (hP : jm_Pb σ) (k0 : 0 ≤ k) (k1 : k < σ 103 5 + 2 * σ 103 3) : jw_T (js_S n) 1 228 [.inr (.inr 103), .inl k] σ (fun r σ' => r = some (.inl (jm_kf σ k)) ∧ σ' = σ) := by
  refine jw_T_of (D := 0) (M := mm_228) rfl (Nat.le_of_ble_eq_true rfl) (ls0 := [some (.inr (.inr 103)), some (.inl k)]) rfl ?_ (by rintro _ _ ⟨rfl, -⟩; rfl)
  have hq := hP.1
  have hw := hP.2.1
  have hp := hP.2.2.1
  refine jw_W_n 2 (i' := 2) (ls' := [some (.inr (.inr 103)), some (.inl k)]) (st' := [.inr (.inr 103), .inl k]) rfl ?_
  refine jw_W_gf rfl rfl rfl ?_
  show jw_W (js_S n) _ md_228 3 [some (.inr (.inr 103)), some (.inl k)] [.inl (σ 103 5), .inl k] σ _
  refine jw_W_ic rfl (by unfold jw_rg; omega) (by unfold jw_rg; omega) (fun hc1 => ?_) (fun hc1 => ?_)
  · have hc1 : k ≥ (σ 103 5) := hc1
    refine jw_W_n 2 (i' := 15) (ls' := [some (.inr (.inr 103)), some (.inl k)]) (st' := [.inr (.inr 103), .inl k]) rfl ?_
    refine jw_W_gf rfl rfl rfl ?_
    show jw_W (js_S n) _ md_228 16 [some (.inr (.inr 103)), some (.inl k)] [.inl (σ 103 5), .inl k] σ _
    refine jw_W_n 1 (i' := 17) (ls' := [some (.inr (.inr 103)), some (.inl k)]) (st' := [.inr (.inr 103), .inl (σ 103 5), .inl k]) rfl ?_
    refine jw_W_gf rfl rfl rfl ?_
    show jw_W (js_S n) _ md_228 18 [some (.inr (.inr 103)), some (.inl k)] [.inl (σ 103 3), .inl (σ 103 5), .inl k] σ _
    refine jw_W_n 1 (i' := 19) (ls' := [some (.inr (.inr 103)), some (.inl k)]) (st' := [.inl (σ 103 5 + (σ 103 3)), .inl k]) rfl ?_
    refine jw_W_ic rfl (by unfold jw_rg; omega) (by unfold jw_rg; omega) (fun hc2 => ?_) (fun hc2 => ?_)
    · have hc2 : k ≥ (σ 103 5 + (σ 103 3)) := hc2
      refine jw_W_n 1 (i' := 23) (ls' := [some (.inr (.inr 103)), some (.inl k)]) (st' := [.inl 3]) rfl ?_
      refine jw_W_ir rfl ?_
      refine ⟨?_, rfl⟩
      simp only [jm_kf]
      first | rw [if_pos (by omega)] | rw [if_neg (by omega), if_pos (by omega)] | rw [if_neg (by omega), if_neg (by omega)]
    · have hc2 : ¬ (k ≥ (σ 103 5 + (σ 103 3))) := hc2
      refine jw_W_n 2 (i' := 23) (ls' := [some (.inr (.inr 103)), some (.inl k)]) (st' := [.inl 2]) rfl ?_
      refine jw_W_ir rfl ?_
      refine ⟨?_, rfl⟩
      simp only [jm_kf]
      first | rw [if_pos (by omega)] | rw [if_neg (by omega), if_pos (by omega)] | rw [if_neg (by omega), if_neg (by omega)]
  · have hc1 : ¬ (k ≥ (σ 103 5)) := hc1
    refine jw_W_n 1 (i' := 5) (ls' := [some (.inr (.inr 103)), some (.inl k)]) (st' := [.inr (.inr 103)]) rfl ?_
    refine jw_W_gf rfl rfl rfl ?_
    show jw_W (js_S n) _ md_228 6 [some (.inr (.inr 103)), some (.inl k)] [.inr (.inr 105)] σ _
    refine jw_W_n 5 (i' := 11) (ls' := [some (.inr (.inr 103)), some (.inl k)]) (st' := [.inl ((5 * k) + 4), .inr (.inr 105)]) rfl ?_
    refine jw_W_ia rfl rfl (by omega) (by omega) (by omega) ?_
    show jw_W (js_S n) _ md_228 12 [some (.inr (.inr 103)), some (.inl k)] [.inl (σ 105 ((5 * k) + 4))] σ _
    refine jw_W_n 1 (i' := 23) (ls' := [some (.inr (.inr 103)), some (.inl k)]) (st' := [.inl (σ 105 ((5 * k) + 4))]) rfl ?_
    refine jw_W_ir rfl ?_
    refine ⟨?_, rfl⟩
    simp only [jm_kf]
    first | rw [if_pos (by omega)] | rw [if_neg (by omega), if_pos (by omega)] | rw [if_neg (by omega), if_neg (by omega)]
theorem jm_wish {n : Nat} {σ : jw_H} {w q : Int} (hP : jm_Pb σ) (hwr : jw_rg w) (hqr : jw_rg q) : jw_T (js_S n) 2 230 [.inr (.inr 103), .inl w, .inl q] σ (fun r σ' => r = some (.inl (if (0 ≤ w ∧ w < σ 103 4) ∧ (0 ≤ q ∧ q < σ 103 3) then σ 104 (3 * w + q) else -100000)) ∧ σ' = σ) := by
  refine jw_T_of (D := 1) (M := mm_230) rfl (Nat.le_of_ble_eq_true rfl) (ls0 := [some (.inr (.inr 103)), some (.inl w), some (.inl q)]) rfl ?_ (by rintro _ _ ⟨rfl, -⟩; rfl)
  have hq := hP.1
  have hw := hP.2.1
  have hp := hP.2.2.1
  have rhwr := hwr
  unfold jw_rg at rhwr
  have rhqr := hqr
  unfold jw_rg at rhqr
  refine jw_W_n 3 (i' := 3) (ls' := [some (.inr (.inr 103)), some (.inl w), some (.inl q)]) (st' := [.inr (.inr 103), .inl 0, .inl w]) rfl ?_
  refine jw_W_gf rfl rfl rfl ?_
  show jw_W (js_S n) _ md_230 4 [some (.inr (.inr 103)), some (.inl w), some (.inl q)] [.inl (σ 103 4), .inl 0, .inl w] σ _
  refine jw_W_n 2 (i' := 6) (ls' := [some (.inr (.inr 103)), some (.inl w), some (.inl q)]) (st' := [.inl (σ 103 4 - 1), .inl 0, .inl w]) rfl ?_
  refine jw_W_call (as := [.inl w, .inl 0, .inl (σ 103 4 - 1)]) (rest := []) rfl rfl rfl rfl (Nat.le_of_ble_eq_true rfl) (.inl rfl) (jm_in (by unfold jw_rg; omega) (by unfold jw_rg; omega) (by unfold jw_rg; omega)) (by omega) ?_ rfl
  rintro r1 σ1 (⟨rfl, hs, q1⟩ | ⟨rfl, hs, q1⟩)
  · rw [hs]
    show jw_W (js_S n) _ md_230 7 [some (.inr (.inr 103)), some (.inl w), some (.inl q)] [.inl 1] σ _
    refine jw_W_if rfl (by unfold jw_rg; omega) (fun hc1 => ?_) (fun hc1 => ?_)
    · exact absurd hc1 (show ¬ ((1 : Int) = 0) by omega)
    · clear hc1
      refine jw_W_n 3 (i' := 11) (ls' := [some (.inr (.inr 103)), some (.inl w), some (.inl q)]) (st' := [.inr (.inr 103), .inl 0, .inl q]) rfl ?_
      refine jw_W_gf rfl rfl rfl ?_
      show jw_W (js_S n) _ md_230 12 [some (.inr (.inr 103)), some (.inl w), some (.inl q)] [.inl (σ 103 3), .inl 0, .inl q] σ _
      refine jw_W_n 2 (i' := 14) (ls' := [some (.inr (.inr 103)), some (.inl w), some (.inl q)]) (st' := [.inl (σ 103 3 - 1), .inl 0, .inl q]) rfl ?_
      refine jw_W_call (as := [.inl q, .inl 0, .inl (σ 103 3 - 1)]) (rest := []) rfl rfl rfl rfl (Nat.le_of_ble_eq_true rfl) (.inl rfl) (jm_in (by unfold jw_rg; omega) (by unfold jw_rg; omega) (by unfold jw_rg; omega)) (by omega) ?_ rfl
      rintro r1 σ1 (⟨rfl, hs, q2⟩ | ⟨rfl, hs, q2⟩)
      · rw [hs]
        show jw_W (js_S n) _ md_230 15 [some (.inr (.inr 103)), some (.inl w), some (.inl q)] [.inl 1] σ _
        refine jw_W_if rfl (by unfold jw_rg; omega) (fun hc2 => ?_) (fun hc2 => ?_)
        · exact absurd hc2 (show ¬ ((1 : Int) = 0) by omega)
        · clear hc2
          refine jw_W_n 1 (i' := 17) (ls' := [some (.inr (.inr 103)), some (.inl w), some (.inl q)]) (st' := [.inr (.inr 103)]) rfl ?_
          refine jw_W_gf rfl rfl rfl ?_
          show jw_W (js_S n) _ md_230 18 [some (.inr (.inr 103)), some (.inl w), some (.inl q)] [.inr (.inr 104)] σ _
          refine jw_W_n 5 (i' := 23) (ls' := [some (.inr (.inr 103)), some (.inl w), some (.inl q)]) (st' := [.inl ((3 * w) + q), .inr (.inr 104)]) rfl ?_
          refine jw_W_ia rfl rfl (by omega) (by omega) (by omega) ?_
          show jw_W (js_S n) _ md_230 24 [some (.inr (.inr 103)), some (.inl w), some (.inl q)] [.inl (σ 104 ((3 * w) + q))] σ _
          refine jw_W_n 1 (i' := 26) (ls' := [some (.inr (.inr 103)), some (.inl w), some (.inl q)]) (st' := [.inl (σ 104 ((3 * w) + q))]) rfl ?_
          refine jw_W_ir rfl ?_
          first | exact ⟨by rw [if_pos (by omega)], rfl⟩ | exact ⟨by rw [if_neg (by omega)], rfl⟩
      · rw [hs]
        show jw_W (js_S n) _ md_230 15 [some (.inr (.inr 103)), some (.inl w), some (.inl q)] [.inl 0] σ _
        refine jw_W_if rfl (by unfold jw_rg; omega) (fun hc3 => ?_) (fun hc3 => ?_)
        · clear hc3
          refine jw_W_ldw (z := (-100000)) rfl rfl ?_
          refine jw_W_ir rfl ?_
          first | exact ⟨by rw [if_pos (by omega)], rfl⟩ | exact ⟨by rw [if_neg (by omega)], rfl⟩
        · exact absurd hc3 (show ¬ ¬ ((0 : Int) = 0) by omega)
  · rw [hs]
    show jw_W (js_S n) _ md_230 7 [some (.inr (.inr 103)), some (.inl w), some (.inl q)] [.inl 0] σ _
    refine jw_W_if rfl (by unfold jw_rg; omega) (fun hc4 => ?_) (fun hc4 => ?_)
    · clear hc4
      refine jw_W_ldw (z := (-100000)) rfl rfl ?_
      refine jw_W_ir rfl ?_
      first | exact ⟨by rw [if_pos (by omega)], rfl⟩ | exact ⟨by rw [if_neg (by omega)], rfl⟩
    · exact absurd hc4 (show ¬ ¬ ((0 : Int) = 0) by omega)
def jm_plf (σ : jw_H) (k j : Int) : Int := if (0 ≤ k ∧ k < σ 103 5 + 2 * σ 103 3) ∧ (0 ≤ j ∧ j ≤ 4) then (if j < 3 then jm_pf σ k j else if j = 3 then jm_if σ k else jm_kf σ k) else -100000
theorem jm_plane {n : Nat} {σ : jw_H} {k j : Int} (hP : jm_Pb σ) (hkr : jw_rg k) (hjr : jw_rg j) : jw_T (js_S n) 2 231 [.inr (.inr 103), .inl k, .inl j] σ (fun r σ' => r = some (.inl (jm_plf σ k j)) ∧ σ' = σ) := by
  refine jw_T_of (D := 1) (M := mm_231) rfl (Nat.le_of_ble_eq_true rfl) (ls0 := [some (.inr (.inr 103)), some (.inl k), some (.inl j)]) rfl ?_ (by rintro _ _ ⟨rfl, -⟩; rfl)
  have hq := hP.1
  have hw := hP.2.1
  have hp := hP.2.2.1
  have rhkr := hkr
  unfold jw_rg at rhkr
  have rhjr := hjr
  unfold jw_rg at rhjr
  refine jw_W_n 3 (i' := 3) (ls' := [some (.inr (.inr 103)), some (.inl k), some (.inl j)]) (st' := [.inr (.inr 103), .inl 0, .inl k]) rfl ?_
  refine jw_W_call (as := [.inr (.inr 103)]) (rest := [.inl 0, .inl k]) rfl rfl rfl rfl (Nat.le_of_ble_eq_true rfl) (.inr rfl) (jm_planes hP) (by omega) ?_ rfl
  rintro r1 σ1 ⟨rfl, hs⟩
  rw [hs]
  show jw_W (js_S n) _ md_231 4 [some (.inr (.inr 103)), some (.inl k), some (.inl j)] [.inl (σ 103 5 + 2 * σ 103 3), .inl 0, .inl k] σ _
  refine jw_W_n 2 (i' := 6) (ls' := [some (.inr (.inr 103)), some (.inl k), some (.inl j)]) (st' := [.inl ((σ 103 5 + 2 * σ 103 3) - 1), .inl 0, .inl k]) rfl ?_
  refine jw_W_call (as := [.inl k, .inl 0, .inl ((σ 103 5 + 2 * σ 103 3) - 1)]) (rest := []) rfl rfl rfl rfl (Nat.le_of_ble_eq_true rfl) (.inl rfl) (jm_in (by unfold jw_rg; omega) (by unfold jw_rg; omega) (by unfold jw_rg; omega)) (by omega) ?_ rfl
  rintro r1 σ1 (⟨rfl, hs, q3⟩ | ⟨rfl, hs, q3⟩)
  · rw [hs]
    show jw_W (js_S n) _ md_231 7 [some (.inr (.inr 103)), some (.inl k), some (.inl j)] [.inl 1] σ _
    refine jw_W_if rfl (by unfold jw_rg; omega) (fun hc1 => ?_) (fun hc1 => ?_)
    · exact absurd hc1 (show ¬ ((1 : Int) = 0) by omega)
    · clear hc1
      refine jw_W_n 3 (i' := 11) (ls' := [some (.inr (.inr 103)), some (.inl k), some (.inl j)]) (st' := [.inl 4, .inl 0, .inl j]) rfl ?_
      refine jw_W_call (as := [.inl j, .inl 0, .inl 4]) (rest := []) rfl rfl rfl rfl (Nat.le_of_ble_eq_true rfl) (.inl rfl) (jm_in (by unfold jw_rg; omega) (by unfold jw_rg; omega) (by unfold jw_rg; omega)) (by omega) ?_ rfl
      rintro r1 σ1 (⟨rfl, hs, q4⟩ | ⟨rfl, hs, q4⟩)
      · rw [hs]
        show jw_W (js_S n) _ md_231 12 [some (.inr (.inr 103)), some (.inl k), some (.inl j)] [.inl 1] σ _
        refine jw_W_if rfl (by unfold jw_rg; omega) (fun hc2 => ?_) (fun hc2 => ?_)
        · clear hc2
          refine jw_W_n 2 (i' := 17) (ls' := [some (.inr (.inr 103)), some (.inl k), some (.inl j)]) (st' := [.inl 3, .inl j]) rfl ?_
          refine jw_W_ic rfl (by unfold jw_rg; omega) (by unfold jw_rg; omega) (fun hc3 => ?_) (fun hc3 => ?_)
          · have hc3 : j ≥ 3 := hc3
            refine jw_W_n 2 (i' := 25) (ls' := [some (.inr (.inr 103)), some (.inl k), some (.inl j)]) (st' := [.inl 3, .inl j]) rfl ?_
            refine jw_W_ic rfl (by unfold jw_rg; omega) (by unfold jw_rg; omega) (fun hc4 => ?_) (fun hc4 => ?_)
            · have hc4 : j ≠ 3 := hc4
              refine jw_W_n 2 (i' := 32) (ls' := [some (.inr (.inr 103)), some (.inl k), some (.inl j)]) (st' := [.inl k, .inr (.inr 103)]) rfl ?_
              refine jw_W_call (as := [.inr (.inr 103), .inl k]) (rest := []) rfl rfl rfl rfl (Nat.le_of_ble_eq_true rfl) (.inr rfl) (jm_kindOf hP (by omega) (by omega)) (by omega) ?_ rfl
              rintro r1 σ1 ⟨rfl, hs⟩
              rw [hs]
              show jw_W (js_S n) _ md_231 33 [some (.inr (.inr 103)), some (.inl k), some (.inl j)] [.inl (jm_kf σ k)] σ _
              refine jw_W_ir rfl ?_
              refine ⟨?_, rfl⟩
              simp only [jm_plf]
              first | rw [if_neg (by omega)] | rw [if_pos (by omega), if_pos (by omega)] | rw [if_pos (by omega), if_neg (by omega), if_pos (by omega)] | rw [if_pos (by omega), if_neg (by omega), if_neg (by omega)]
            · have hc4 : j = 3 := Classical.not_not.mp hc4
              refine jw_W_n 2 (i' := 28) (ls' := [some (.inr (.inr 103)), some (.inl k), some (.inl j)]) (st' := [.inl k, .inr (.inr 103)]) rfl ?_
              refine jw_W_call (as := [.inr (.inr 103), .inl k]) (rest := []) rfl rfl rfl rfl (Nat.le_of_ble_eq_true rfl) (.inr rfl) (jm_planeIs hP (by omega) (by omega)) (by omega) ?_ rfl
              rintro r1 σ1 ⟨rfl, hs⟩
              rw [hs]
              show jw_W (js_S n) _ md_231 29 [some (.inr (.inr 103)), some (.inl k), some (.inl j)] [.inl (jm_if σ k)] σ _
              refine jw_W_n 1 (i' := 33) (ls' := [some (.inr (.inr 103)), some (.inl k), some (.inl j)]) (st' := [.inl (jm_if σ k)]) rfl ?_
              refine jw_W_ir rfl ?_
              refine ⟨?_, rfl⟩
              simp only [jm_plf]
              first | rw [if_neg (by omega)] | rw [if_pos (by omega), if_pos (by omega)] | rw [if_pos (by omega), if_neg (by omega), if_pos (by omega)] | rw [if_pos (by omega), if_neg (by omega), if_neg (by omega)]
          · have hc3 : ¬ (j ≥ 3) := hc3
            refine jw_W_n 3 (i' := 21) (ls' := [some (.inr (.inr 103)), some (.inl k), some (.inl j)]) (st' := [.inl j, .inl k, .inr (.inr 103)]) rfl ?_
            refine jw_W_call (as := [.inr (.inr 103), .inl k, .inl j]) (rest := []) rfl rfl rfl rfl (Nat.le_of_ble_eq_true rfl) (.inr rfl) (jm_planeOf hP (by omega) (by omega) (by omega) (by omega)) (by omega) ?_ rfl
            rintro r1 σ1 ⟨rfl, hs⟩
            rw [hs]
            show jw_W (js_S n) _ md_231 22 [some (.inr (.inr 103)), some (.inl k), some (.inl j)] [.inl (jm_pf σ k j)] σ _
            refine jw_W_n 1 (i' := 33) (ls' := [some (.inr (.inr 103)), some (.inl k), some (.inl j)]) (st' := [.inl (jm_pf σ k j)]) rfl ?_
            refine jw_W_ir rfl ?_
            refine ⟨?_, rfl⟩
            simp only [jm_plf]
            first | rw [if_neg (by omega)] | rw [if_pos (by omega), if_pos (by omega)] | rw [if_pos (by omega), if_neg (by omega), if_pos (by omega)] | rw [if_pos (by omega), if_neg (by omega), if_neg (by omega)]
        · exact absurd hc2 (show ¬ ¬ ((1 : Int) ≠ 0) by omega)
      · rw [hs]
        show jw_W (js_S n) _ md_231 12 [some (.inr (.inr 103)), some (.inl k), some (.inl j)] [.inl 0] σ _
        refine jw_W_if rfl (by unfold jw_rg; omega) (fun hc5 => ?_) (fun hc5 => ?_)
        · exact absurd hc5 (show ¬ ((0 : Int) ≠ 0) by omega)
        · clear hc5
          refine jw_W_ldw (z := (-100000)) rfl rfl ?_
          refine jw_W_ir rfl ?_
          refine ⟨?_, rfl⟩
          simp only [jm_plf]
          first | rw [if_neg (by omega)] | rw [if_pos (by omega), if_pos (by omega)] | rw [if_pos (by omega), if_neg (by omega), if_pos (by omega)] | rw [if_pos (by omega), if_neg (by omega), if_neg (by omega)]
  · rw [hs]
    show jw_W (js_S n) _ md_231 7 [some (.inr (.inr 103)), some (.inl k), some (.inl j)] [.inl 0] σ _
    refine jw_W_if rfl (by unfold jw_rg; omega) (fun hc6 => ?_) (fun hc6 => ?_)
    · clear hc6
      refine jw_W_ldw (z := (-100000)) rfl rfl ?_
      refine jw_W_ir rfl ?_
      refine ⟨?_, rfl⟩
      simp only [jm_plf]
      first | rw [if_neg (by omega)] | rw [if_pos (by omega), if_pos (by omega)] | rw [if_pos (by omega), if_neg (by omega), if_pos (by omega)] | rw [if_pos (by omega), if_neg (by omega), if_neg (by omega)]
    · exact absurd hc6 (show ¬ ¬ ((0 : Int) = 0) by omega)
def jm_pif (σ : jw_H) (j : Int) : Int := if 10 ≤ j ∧ j < 10 + σ 103 3 then σ 106 (j - 10) else if j = 0 then σ 103 3 else if j = 1 then σ 103 4 else if j = 2 then σ 103 5 else if j = 3 then σ 103 5 + 2 * σ 103 3 else -1
theorem jm_problemIs {n : Nat} {σ : jw_H} {j : Int} (hP : jm_Pb σ) (hjr : jw_rg j) : jw_T (js_S n) 2 229 [.inr (.inr 103), .inl j] σ (fun r σ' => r = some (.inl (jm_pif σ j)) ∧ σ' = σ) := by
  refine jw_T_of (D := 1) (M := mm_229) rfl (Nat.le_of_ble_eq_true rfl) (ls0 := [some (.inr (.inr 103)), some (.inl j)]) rfl ?_ (by rintro _ _ ⟨rfl, -⟩; rfl)
  have hq := hP.1
  have hw := hP.2.1
  have hp := hP.2.2.1
  have rhjr := hjr
  unfold jw_rg at rhjr
  refine jw_W_n 4 (i' := 4) (ls' := [some (.inr (.inr 103)), some (.inl j)]) (st' := [.inr (.inr 103), .inl 9, .inl 10, .inl j]) rfl ?_
  refine jw_W_gf rfl rfl rfl ?_
  show jw_W (js_S n) _ md_229 5 [some (.inr (.inr 103)), some (.inl j)] [.inl (σ 103 3), .inl 9, .inl 10, .inl j] σ _
  refine jw_W_n 1 (i' := 6) (ls' := [some (.inr (.inr 103)), some (.inl j)]) (st' := [.inl (9 + (σ 103 3)), .inl 10, .inl j]) rfl ?_
  refine jw_W_call (as := [.inl j, .inl 10, .inl (9 + (σ 103 3))]) (rest := []) rfl rfl rfl rfl (Nat.le_of_ble_eq_true rfl) (.inl rfl) (jm_in (by unfold jw_rg; omega) (by unfold jw_rg; omega) (by unfold jw_rg; omega)) (by omega) ?_ rfl
  rintro r1 σ1 (⟨rfl, hs, q5⟩ | ⟨rfl, hs, q5⟩)
  · rw [hs]
    show jw_W (js_S n) _ md_229 7 [some (.inr (.inr 103)), some (.inl j)] [.inl 1] σ _
    refine jw_W_if rfl (by unfold jw_rg; omega) (fun hc1 => ?_) (fun hc1 => ?_)
    · exact absurd hc1 (show ¬ ((1 : Int) = 0) by omega)
    · clear hc1
      refine jw_W_n 1 (i' := 9) (ls' := [some (.inr (.inr 103)), some (.inl j)]) (st' := [.inr (.inr 103)]) rfl ?_
      refine jw_W_gf rfl rfl rfl ?_
      show jw_W (js_S n) _ md_229 10 [some (.inr (.inr 103)), some (.inl j)] [.inr (.inr 106)] σ _
      refine jw_W_n 3 (i' := 13) (ls' := [some (.inr (.inr 103)), some (.inl j)]) (st' := [.inl (j - 10), .inr (.inr 106)]) rfl ?_
      refine jw_W_ia rfl rfl (by omega) (by omega) (by omega) ?_
      show jw_W (js_S n) _ md_229 14 [some (.inr (.inr 103)), some (.inl j)] [.inl (σ 106 (j - 10))] σ _
      refine jw_W_ir rfl ?_
      refine ⟨?_, rfl⟩
      simp only [jm_pif]
      first | rw [if_pos (by omega)] | rw [if_neg (by omega), if_pos (by omega)] | rw [if_neg (by omega), if_neg (by omega), if_pos (by omega)] | rw [if_neg (by omega), if_neg (by omega), if_neg (by omega), if_pos (by omega)] | rw [if_neg (by omega), if_neg (by omega), if_neg (by omega), if_neg (by omega), if_pos (by omega)] | rw [if_neg (by omega), if_neg (by omega), if_neg (by omega), if_neg (by omega), if_neg (by omega)]
  · rw [hs]
    show jw_W (js_S n) _ md_229 7 [some (.inr (.inr 103)), some (.inl j)] [.inl 0] σ _
    refine jw_W_if rfl (by unfold jw_rg; omega) (fun hc2 => ?_) (fun hc2 => ?_)
    · clear hc2
      refine jw_W_n 1 (i' := 16) (ls' := [some (.inr (.inr 103)), some (.inl j)]) (st' := [.inl j]) rfl ?_
      refine jw_W_if rfl (by unfold jw_rg; omega) (fun hc3 => ?_) (fun hc3 => ?_)
      · have hc3 : j ≠ 0 := hc3
        refine jw_W_n 2 (i' := 22) (ls' := [some (.inr (.inr 103)), some (.inl j)]) (st' := [.inl 1, .inl j]) rfl ?_
        refine jw_W_ic rfl (by unfold jw_rg; omega) (by unfold jw_rg; omega) (fun hc4 => ?_) (fun hc4 => ?_)
        · have hc4 : j ≠ 1 := hc4
          refine jw_W_n 2 (i' := 28) (ls' := [some (.inr (.inr 103)), some (.inl j)]) (st' := [.inl 2, .inl j]) rfl ?_
          refine jw_W_ic rfl (by unfold jw_rg; omega) (by unfold jw_rg; omega) (fun hc5 => ?_) (fun hc5 => ?_)
          · have hc5 : j ≠ 2 := hc5
            refine jw_W_n 2 (i' := 34) (ls' := [some (.inr (.inr 103)), some (.inl j)]) (st' := [.inl 3, .inl j]) rfl ?_
            refine jw_W_ic rfl (by unfold jw_rg; omega) (by unfold jw_rg; omega) (fun hc6 => ?_) (fun hc6 => ?_)
            · have hc6 : j ≠ 3 := hc6
              refine jw_W_n 1 (i' := 39) (ls' := [some (.inr (.inr 103)), some (.inl j)]) (st' := [.inl ((-1))]) rfl ?_
              refine jw_W_ir rfl ?_
              refine ⟨?_, rfl⟩
              simp only [jm_pif]
              first | rw [if_pos (by omega)] | rw [if_neg (by omega), if_pos (by omega)] | rw [if_neg (by omega), if_neg (by omega), if_pos (by omega)] | rw [if_neg (by omega), if_neg (by omega), if_neg (by omega), if_pos (by omega)] | rw [if_neg (by omega), if_neg (by omega), if_neg (by omega), if_neg (by omega), if_pos (by omega)] | rw [if_neg (by omega), if_neg (by omega), if_neg (by omega), if_neg (by omega), if_neg (by omega)]
            · have hc6 : j = 3 := Classical.not_not.mp hc6
              refine jw_W_n 1 (i' := 36) (ls' := [some (.inr (.inr 103)), some (.inl j)]) (st' := [.inr (.inr 103)]) rfl ?_
              refine jw_W_call (as := [.inr (.inr 103)]) (rest := []) rfl rfl rfl rfl (Nat.le_of_ble_eq_true rfl) (.inr rfl) (jm_planes hP) (by omega) ?_ rfl
              rintro r1 σ1 ⟨rfl, hs⟩
              rw [hs]
              show jw_W (js_S n) _ md_229 37 [some (.inr (.inr 103)), some (.inl j)] [.inl (σ 103 5 + 2 * σ 103 3)] σ _
              refine jw_W_n 1 (i' := 39) (ls' := [some (.inr (.inr 103)), some (.inl j)]) (st' := [.inl (σ 103 5 + 2 * σ 103 3)]) rfl ?_
              refine jw_W_ir rfl ?_
              refine ⟨?_, rfl⟩
              simp only [jm_pif]
              first | rw [if_pos (by omega)] | rw [if_neg (by omega), if_pos (by omega)] | rw [if_neg (by omega), if_neg (by omega), if_pos (by omega)] | rw [if_neg (by omega), if_neg (by omega), if_neg (by omega), if_pos (by omega)] | rw [if_neg (by omega), if_neg (by omega), if_neg (by omega), if_neg (by omega), if_pos (by omega)] | rw [if_neg (by omega), if_neg (by omega), if_neg (by omega), if_neg (by omega), if_neg (by omega)]
          · have hc5 : j = 2 := Classical.not_not.mp hc5
            refine jw_W_n 1 (i' := 30) (ls' := [some (.inr (.inr 103)), some (.inl j)]) (st' := [.inr (.inr 103)]) rfl ?_
            refine jw_W_gf rfl rfl rfl ?_
            show jw_W (js_S n) _ md_229 31 [some (.inr (.inr 103)), some (.inl j)] [.inl (σ 103 5)] σ _
            refine jw_W_n 1 (i' := 39) (ls' := [some (.inr (.inr 103)), some (.inl j)]) (st' := [.inl (σ 103 5)]) rfl ?_
            refine jw_W_ir rfl ?_
            refine ⟨?_, rfl⟩
            simp only [jm_pif]
            first | rw [if_pos (by omega)] | rw [if_neg (by omega), if_pos (by omega)] | rw [if_neg (by omega), if_neg (by omega), if_pos (by omega)] | rw [if_neg (by omega), if_neg (by omega), if_neg (by omega), if_pos (by omega)] | rw [if_neg (by omega), if_neg (by omega), if_neg (by omega), if_neg (by omega), if_pos (by omega)] | rw [if_neg (by omega), if_neg (by omega), if_neg (by omega), if_neg (by omega), if_neg (by omega)]
        · have hc4 : j = 1 := Classical.not_not.mp hc4
          refine jw_W_n 1 (i' := 24) (ls' := [some (.inr (.inr 103)), some (.inl j)]) (st' := [.inr (.inr 103)]) rfl ?_
          refine jw_W_gf rfl rfl rfl ?_
          show jw_W (js_S n) _ md_229 25 [some (.inr (.inr 103)), some (.inl j)] [.inl (σ 103 4)] σ _
          refine jw_W_n 1 (i' := 39) (ls' := [some (.inr (.inr 103)), some (.inl j)]) (st' := [.inl (σ 103 4)]) rfl ?_
          refine jw_W_ir rfl ?_
          refine ⟨?_, rfl⟩
          simp only [jm_pif]
          first | rw [if_pos (by omega)] | rw [if_neg (by omega), if_pos (by omega)] | rw [if_neg (by omega), if_neg (by omega), if_pos (by omega)] | rw [if_neg (by omega), if_neg (by omega), if_neg (by omega), if_pos (by omega)] | rw [if_neg (by omega), if_neg (by omega), if_neg (by omega), if_neg (by omega), if_pos (by omega)] | rw [if_neg (by omega), if_neg (by omega), if_neg (by omega), if_neg (by omega), if_neg (by omega)]
      · have hc3 : j = 0 := Classical.not_not.mp hc3
        refine jw_W_n 1 (i' := 18) (ls' := [some (.inr (.inr 103)), some (.inl j)]) (st' := [.inr (.inr 103)]) rfl ?_
        refine jw_W_gf rfl rfl rfl ?_
        show jw_W (js_S n) _ md_229 19 [some (.inr (.inr 103)), some (.inl j)] [.inl (σ 103 3)] σ _
        refine jw_W_n 1 (i' := 39) (ls' := [some (.inr (.inr 103)), some (.inl j)]) (st' := [.inl (σ 103 3)]) rfl ?_
        refine jw_W_ir rfl ?_
        refine ⟨?_, rfl⟩
        simp only [jm_pif]
        first | rw [if_pos (by omega)] | rw [if_neg (by omega), if_pos (by omega)] | rw [if_neg (by omega), if_neg (by omega), if_pos (by omega)] | rw [if_neg (by omega), if_neg (by omega), if_neg (by omega), if_pos (by omega)] | rw [if_neg (by omega), if_neg (by omega), if_neg (by omega), if_neg (by omega), if_pos (by omega)] | rw [if_neg (by omega), if_neg (by omega), if_neg (by omega), if_neg (by omega), if_neg (by omega)]
    · exact absurd hc2 (show ¬ ¬ ((0 : Int) = 0) by omega)
def jm_of (u l j : Int) : Int := if j = 0 then u / (Int.gcd u l : Int) else l / (Int.gcd u l : Int)
theorem jm_ofFr {n : Nat} {σ : jw_H} {u l j : Int} (hu : jm_bg u) (l0 : 0 < l) (l1 : l ≤ 9200000000000000000) (hj : jw_rg j) : jw_T (js_S n) 2 182 [.inr (.inl u), .inr (.inl l), .inl j] σ (fun r σ' => r = some (.inr (.inl (jm_of u l j))) ∧ σ' = σ) := by
  refine jw_T_of (D := 1) (M := mm_182) rfl (Nat.le_of_ble_eq_true rfl) (ls0 := [some (.inr (.inl u)), none, some (.inr (.inl l)), none, some (.inl j), none, none, none, none]) rfl ?_ (by rintro _ _ ⟨rfl, -⟩; rfl)
  have g0 : 0 < (Int.gcd u l : Int) := by
    have := Int.gcd_pos_of_ne_zero_right u (show l ≠ 0 by omega)
    omega
  have g1 : (Int.gcd u l : Int) ≤ l := Int.le_of_dvd l0 (Int.gcd_dvd_right u l)
  have f1 := jm_ldiv_ex hu g0 (by omega) (Int.gcd_dvd_left u l)
  have f2 := jm_ldiv_ex (x := l) (by unfold jm_bg; omega) g0 (by omega) (Int.gcd_dvd_right u l)
  have hu2 := hu
  unfold jm_bg at hu2
  have rhj := hj
  unfold jw_rg at rhj
  refine jw_W_n 2 (i' := 2) (ls' := [some (.inr (.inl u)), none, some (.inr (.inl l)), none, some (.inl j), none, none, none, none]) (st' := [.inr (.inl l), .inr (.inl u)]) rfl ?_
  refine jw_W_call (as := [.inr (.inl u), .inr (.inl l)]) (rest := []) rfl rfl rfl rfl (Nat.le_of_ble_eq_true rfl) (.inl rfl) (jm_gcd (by unfold jw_rgl; omega) (by omega) (by unfold jw_rgl; omega) (by omega)) (by omega) ?_ rfl
  rintro r1 σ1 ⟨rfl, hs⟩
  rw [hs]
  show jw_W (js_S n) _ md_182 3 [some (.inr (.inl u)), none, some (.inr (.inl l)), none, some (.inl j), none, none, none, none] [.inr (.inl ((Int.gcd u l : Int)))] σ _
  refine jw_W_n 3 (i' := 6) (ls' := [some (.inr (.inl u)), none, some (.inr (.inl l)), none, some (.inl j), some (.inr (.inl ((Int.gcd u l : Int)))), none, none, none]) (st' := [.inr (.inl 0), .inr (.inl l)]) rfl ?_
  refine jw_W_lc rfl rfl (by unfold jw_rgl; omega) (by unfold jw_rgl; omega) (fun hc1 => ?_) (fun hc1 => ?_)
  · have hc1 : l ≥ 0 := hc1
    refine jw_W_n 3 (i' := 14) (ls' := [some (.inr (.inl u)), none, some (.inr (.inl l)), none, some (.inl j), some (.inr (.inl ((Int.gcd u l : Int)))), none, some (.inr (.inl ((Int.gcd u l : Int)))), none]) (st' := [.inl j]) rfl ?_
    refine jw_W_if rfl (by unfold jw_rg; omega) (fun hc2 => ?_) (fun hc2 => ?_)
    · have hc2 : j ≠ 0 := hc2
      refine jw_W_n 2 (i' := 21) (ls' := [some (.inr (.inl u)), none, some (.inr (.inl l)), none, some (.inl j), some (.inr (.inl ((Int.gcd u l : Int)))), none, some (.inr (.inl ((Int.gcd u l : Int)))), none]) (st' := [.inr (.inl ((Int.gcd u l : Int))), .inr (.inl l)]) rfl ?_
      refine jw_W_ldiv rfl (by unfold jw_rgl; omega) (by omega) ?_
      rw [f2]
      refine jw_W_lr rfl ?_
      refine ⟨?_, rfl⟩
      unfold jm_of
      first | rw [if_pos (by omega)] | rw [if_neg (by omega)]
    · have hc2 : j = 0 := Classical.not_not.mp hc2
      refine jw_W_n 2 (i' := 17) (ls' := [some (.inr (.inl u)), none, some (.inr (.inl l)), none, some (.inl j), some (.inr (.inl ((Int.gcd u l : Int)))), none, some (.inr (.inl ((Int.gcd u l : Int)))), none]) (st' := [.inr (.inl ((Int.gcd u l : Int))), .inr (.inl u)]) rfl ?_
      refine jw_W_ldiv rfl (by unfold jw_rgl; omega) (by omega) ?_
      rw [f1]
      refine jw_W_n 1 (i' := 22) (ls' := [some (.inr (.inl u)), none, some (.inr (.inl l)), none, some (.inl j), some (.inr (.inl ((Int.gcd u l : Int)))), none, some (.inr (.inl ((Int.gcd u l : Int)))), none]) (st' := [.inr (.inl (u / (Int.gcd u l : Int)))]) rfl ?_
      refine jw_W_lr rfl ?_
      refine ⟨?_, rfl⟩
      unfold jm_of
      first | rw [if_pos (by omega)] | rw [if_neg (by omega)]
  · have hc1 : ¬ (l ≥ 0) := hc1
    omega

/-! ===== the reference's answers of corners ===== -/
theorem jm_isCorner {n : Nat} {σ : jw_H} {i : Int} (hb : jm_cbd σ) (hi : jw_rg i) : jw_T (js_S n) 2 259 [.inr (.inr 103), .inl i] σ (fun r σ' => (r = some (.inl 1) ∧ σ' = σ ∧ (0 ≤ i ∧ i < σ 103 56)) ∨ (r = some (.inl 0) ∧ σ' = σ ∧ ¬ (0 ≤ i ∧ i < σ 103 56))) := by
  refine jw_T_of (D := 1) (M := mm_259) rfl (Nat.le_of_ble_eq_true rfl) (ls0 := [some (.inr (.inr 103)), some (.inl i)]) rfl ?_ (by rintro _ _ (⟨rfl, -⟩ | ⟨rfl, -⟩) <;> rfl)
  have hc := hb.1
  have rhi := hi
  unfold jw_rg at rhi
  refine jw_W_n 3 (i' := 3) (ls' := [some (.inr (.inr 103)), some (.inl i)]) (st' := [.inr (.inr 103), .inl 0, .inl i]) rfl ?_
  refine jw_W_gf rfl rfl rfl ?_
  show jw_W (js_S n) _ md_259 4 [some (.inr (.inr 103)), some (.inl i)] [.inl (σ 103 56), .inl 0, .inl i] σ _
  refine jw_W_n 2 (i' := 6) (ls' := [some (.inr (.inr 103)), some (.inl i)]) (st' := [.inl (σ 103 56 - 1), .inl 0, .inl i]) rfl ?_
  refine jw_W_call (as := [.inl i, .inl 0, .inl (σ 103 56 - 1)]) (rest := []) rfl rfl rfl rfl (Nat.le_of_ble_eq_true rfl) (.inl rfl) (jm_in (by unfold jw_rg; omega) (by unfold jw_rg; omega) (by unfold jw_rg; omega)) (by omega) ?_ rfl
  rintro r1 σ1 (⟨rfl, hs, q1⟩ | ⟨rfl, hs, q1⟩)
  · rw [hs]
    show jw_W (js_S n) _ md_259 7 [some (.inr (.inr 103)), some (.inl i)] [.inl 1] σ _
    refine jw_W_ir rfl ?_
    exact .inl ⟨rfl, rfl, by omega⟩
  · rw [hs]
    show jw_W (js_S n) _ md_259 7 [some (.inr (.inr 103)), some (.inl i)] [.inl 0] σ _
    refine jw_W_ir rfl ?_
    exact .inr ⟨rfl, rfl, by omega⟩
theorem jm_isWish {n : Nat} {σ : jw_H} {w : Int} (hP : jm_Pb σ) (hi : jw_rg w) : jw_T (js_S n) 2 263 [.inr (.inr 103), .inl w] σ (fun r σ' => (r = some (.inl 1) ∧ σ' = σ ∧ (0 ≤ w ∧ w < σ 103 4)) ∨ (r = some (.inl 0) ∧ σ' = σ ∧ ¬ (0 ≤ w ∧ w < σ 103 4))) := by
  refine jw_T_of (D := 1) (M := mm_263) rfl (Nat.le_of_ble_eq_true rfl) (ls0 := [some (.inr (.inr 103)), some (.inl w)]) rfl ?_ (by rintro _ _ (⟨rfl, -⟩ | ⟨rfl, -⟩) <;> rfl)
  have hq := hP.1
  have hw := hP.2.1
  have rhi := hi
  unfold jw_rg at rhi
  refine jw_W_n 3 (i' := 3) (ls' := [some (.inr (.inr 103)), some (.inl w)]) (st' := [.inr (.inr 103), .inl 0, .inl w]) rfl ?_
  refine jw_W_gf rfl rfl rfl ?_
  show jw_W (js_S n) _ md_263 4 [some (.inr (.inr 103)), some (.inl w)] [.inl (σ 103 4), .inl 0, .inl w] σ _
  refine jw_W_n 2 (i' := 6) (ls' := [some (.inr (.inr 103)), some (.inl w)]) (st' := [.inl (σ 103 4 - 1), .inl 0, .inl w]) rfl ?_
  refine jw_W_call (as := [.inl w, .inl 0, .inl (σ 103 4 - 1)]) (rest := []) rfl rfl rfl rfl (Nat.le_of_ble_eq_true rfl) (.inl rfl) (jm_in (by unfold jw_rg; omega) (by unfold jw_rg; omega) (by unfold jw_rg; omega)) (by omega) ?_ rfl
  rintro r1 σ1 (⟨rfl, hs, q2⟩ | ⟨rfl, hs, q2⟩)
  · rw [hs]
    show jw_W (js_S n) _ md_263 7 [some (.inr (.inr 103)), some (.inl w)] [.inl 1] σ _
    refine jw_W_ir rfl ?_
    exact .inl ⟨rfl, rfl, by omega⟩
  · rw [hs]
    show jw_W (js_S n) _ md_263 7 [some (.inr (.inr 103)), some (.inl w)] [.inl 0] σ _
    refine jw_W_ir rfl ?_
    exact .inr ⟨rfl, rfl, by omega⟩
def jm_cc (σ : jw_H) (i q : Int) : Int := if q = 0 then σ 132 i else if q = 1 then σ 133 i else σ 134 i
def jm_cf (σ : jw_H) (i j : Int) : Int := if i < 0 ∨ ¬ (0 ≤ j ∧ j < 2 * σ 103 3) then -1 else if σ 103 56 ≤ i then -4 else jm_of (jm_cc σ i (j / 2)) (σ 135 i) (j % 2)
def jm_waf (σ : jw_H) (i w j : Int) : Int := if (0 ≤ i ∧ i < σ 103 56) ∧ (0 ≤ w ∧ w < σ 103 4) ∧ (j = 0 ∨ j = 1) then jm_of (ge_f (jm_W σ w) (jm_ct σ i)) (σ 135 i) j else -100000000
theorem jm_half : ∀ j : Int, 0 ≤ j → j ≤ 2147483647 → jw_div j 2 = j / 2 ∧ jw_rem j 2 = j % 2 := fun j j0 j1 => by
  refine ⟨?_, jm_rem j0 j1 (by omega) (by omega)⟩
  unfold jw_div
  have e1 : Int32.ofInt j / Int32.ofInt 2 = Int32.ofInt (j.tdiv 2) := (Int32.ofInt_tdiv (by show (-2147483648 : Int) ≤ j; omega) (by show j ≤ (2147483647 : Int); omega) (by show (-2147483648 : Int) ≤ 2; omega) (by show (2 : Int) ≤ (2147483647 : Int); omega)).symm
  rw [e1, Int.tdiv_eq_ediv_of_nonneg j0]
  exact jw_n_id ⟨by omega, by omega⟩
theorem jm_cornerAt {n : Nat} {σ : jw_H} {i q : Int} (hb : jm_cbd σ) (i0 : 0 ≤ i) (i1 : i < σ 103 56) (hq : jw_rg q) : jw_T (js_S n) 1 260 [.inr (.inr 103), .inl i, .inl q] σ (fun r σ' => r = some (.inr (.inl (jm_cc σ i q))) ∧ σ' = σ) := by
  refine jw_T_of (D := 0) (M := mm_260) rfl (Nat.le_of_ble_eq_true rfl) (ls0 := [some (.inr (.inr 103)), some (.inl i), some (.inl q)]) rfl ?_ (by rintro _ _ ⟨rfl, -⟩; rfl)
  have hc := hb.1
  have rhq := hq
  unfold jw_rg at rhq
  refine jw_W_n 1 (i' := 1) (ls' := [some (.inr (.inr 103)), some (.inl i), some (.inl q)]) (st' := [.inl q]) rfl ?_
  refine jw_W_if rfl (by unfold jw_rg; omega) (fun hc1 => ?_) (fun hc1 => ?_)
  · have hc1 : q ≠ 0 := hc1
    refine jw_W_n 2 (i' := 9) (ls' := [some (.inr (.inr 103)), some (.inl i), some (.inl q)]) (st' := [.inl 1, .inl q]) rfl ?_
    refine jw_W_ic rfl (by unfold jw_rg; omega) (by unfold jw_rg; omega) (fun hc2 => ?_) (fun hc2 => ?_)
    · have hc2 : q ≠ 1 := hc2
      refine jw_W_n 1 (i' := 16) (ls' := [some (.inr (.inr 103)), some (.inl i), some (.inl q)]) (st' := [.inr (.inr 103)]) rfl ?_
      refine jw_W_gf rfl rfl rfl ?_
      show jw_W (js_S n) _ md_260 17 [some (.inr (.inr 103)), some (.inl i), some (.inl q)] [.inr (.inr 134)] σ _
      refine jw_W_n 1 (i' := 18) (ls' := [some (.inr (.inr 103)), some (.inl i), some (.inl q)]) (st' := [.inl i, .inr (.inr 134)]) rfl ?_
      refine jw_W_la rfl rfl (by omega) (by omega) (by omega) ?_
      show jw_W (js_S n) _ md_260 19 [some (.inr (.inr 103)), some (.inl i), some (.inl q)] [.inr (.inl (σ 134 i))] σ _
      refine jw_W_lr rfl ?_
      refine ⟨?_, rfl⟩
      simp only [jm_cc]
      first | rw [if_pos (by omega)] | rw [if_neg (by omega), if_pos (by omega)] | rw [if_neg (by omega), if_neg (by omega)]
    · have hc2 : q = 1 := Classical.not_not.mp hc2
      refine jw_W_n 1 (i' := 11) (ls' := [some (.inr (.inr 103)), some (.inl i), some (.inl q)]) (st' := [.inr (.inr 103)]) rfl ?_
      refine jw_W_gf rfl rfl rfl ?_
      show jw_W (js_S n) _ md_260 12 [some (.inr (.inr 103)), some (.inl i), some (.inl q)] [.inr (.inr 133)] σ _
      refine jw_W_n 1 (i' := 13) (ls' := [some (.inr (.inr 103)), some (.inl i), some (.inl q)]) (st' := [.inl i, .inr (.inr 133)]) rfl ?_
      refine jw_W_la rfl rfl (by omega) (by omega) (by omega) ?_
      show jw_W (js_S n) _ md_260 14 [some (.inr (.inr 103)), some (.inl i), some (.inl q)] [.inr (.inl (σ 133 i))] σ _
      refine jw_W_n 1 (i' := 19) (ls' := [some (.inr (.inr 103)), some (.inl i), some (.inl q)]) (st' := [.inr (.inl (σ 133 i))]) rfl ?_
      refine jw_W_lr rfl ?_
      refine ⟨?_, rfl⟩
      simp only [jm_cc]
      first | rw [if_pos (by omega)] | rw [if_neg (by omega), if_pos (by omega)] | rw [if_neg (by omega), if_neg (by omega)]
  · have hc1 : q = 0 := Classical.not_not.mp hc1
    refine jw_W_n 1 (i' := 3) (ls' := [some (.inr (.inr 103)), some (.inl i), some (.inl q)]) (st' := [.inr (.inr 103)]) rfl ?_
    refine jw_W_gf rfl rfl rfl ?_
    show jw_W (js_S n) _ md_260 4 [some (.inr (.inr 103)), some (.inl i), some (.inl q)] [.inr (.inr 132)] σ _
    refine jw_W_n 1 (i' := 5) (ls' := [some (.inr (.inr 103)), some (.inl i), some (.inl q)]) (st' := [.inl i, .inr (.inr 132)]) rfl ?_
    refine jw_W_la rfl rfl (by omega) (by omega) (by omega) ?_
    show jw_W (js_S n) _ md_260 6 [some (.inr (.inr 103)), some (.inl i), some (.inl q)] [.inr (.inl (σ 132 i))] σ _
    refine jw_W_n 1 (i' := 19) (ls' := [some (.inr (.inr 103)), some (.inl i), some (.inl q)]) (st' := [.inr (.inl (σ 132 i))]) rfl ?_
    refine jw_W_lr rfl ?_
    refine ⟨?_, rfl⟩
    simp only [jm_cc]
    first | rw [if_pos (by omega)] | rw [if_neg (by omega), if_pos (by omega)] | rw [if_neg (by omega), if_neg (by omega)]
theorem jm_wishedOf {n : Nat} {σ : jw_H} {i w : Int} (hP : jm_Pb σ) (hb : jm_cbd σ) (i0 : 0 ≤ i) (i1 : i < σ 103 56) (w0 : 0 ≤ w) (w1 : w < σ 103 4) : jw_T (js_S n) 2 262 [.inr (.inr 103), .inl w, .inl i] σ (fun r σ' => r = some (.inr (.inl (ge_f (jm_W σ w) (jm_ct σ i)))) ∧ σ' = σ) := by
  refine jw_T_of (D := 1) (M := mm_262) rfl (Nat.le_of_ble_eq_true rfl) (ls0 := [some (.inr (.inr 103)), some (.inl w), some (.inl i)]) rfl ?_ (by rintro _ _ ⟨rfl, -⟩; rfl)
  have hq := hP.1
  have hw := hP.2.1
  have hc := hb.1
  refine jw_W_n 3 (i' := 3) (ls' := [some (.inr (.inr 103)), some (.inl w), some (.inl i)]) (st' := [.inr (.inr 103), .inl w, .inr (.inr 103)]) rfl ?_
  refine jw_W_gf rfl rfl rfl ?_
  show jw_W (js_S n) _ md_262 4 [some (.inr (.inr 103)), some (.inl w), some (.inl i)] [.inr (.inr 132), .inl w, .inr (.inr 103)] σ _
  refine jw_W_n 1 (i' := 5) (ls' := [some (.inr (.inr 103)), some (.inl w), some (.inl i)]) (st' := [.inl i, .inr (.inr 132), .inl w, .inr (.inr 103)]) rfl ?_
  refine jw_W_la rfl rfl (by omega) (by omega) (by omega) ?_
  show jw_W (js_S n) _ md_262 6 [some (.inr (.inr 103)), some (.inl w), some (.inl i)] [.inr (.inl (σ 132 i)), .inl w, .inr (.inr 103)] σ _
  refine jw_W_n 1 (i' := 7) (ls' := [some (.inr (.inr 103)), some (.inl w), some (.inl i)]) (st' := [.inr (.inr 103), .inr (.inl (σ 132 i)), .inl w, .inr (.inr 103)]) rfl ?_
  refine jw_W_gf rfl rfl rfl ?_
  show jw_W (js_S n) _ md_262 8 [some (.inr (.inr 103)), some (.inl w), some (.inl i)] [.inr (.inr 133), .inr (.inl (σ 132 i)), .inl w, .inr (.inr 103)] σ _
  refine jw_W_n 1 (i' := 9) (ls' := [some (.inr (.inr 103)), some (.inl w), some (.inl i)]) (st' := [.inl i, .inr (.inr 133), .inr (.inl (σ 132 i)), .inl w, .inr (.inr 103)]) rfl ?_
  refine jw_W_la rfl rfl (by omega) (by omega) (by omega) ?_
  show jw_W (js_S n) _ md_262 10 [some (.inr (.inr 103)), some (.inl w), some (.inl i)] [.inr (.inl (σ 133 i)), .inr (.inl (σ 132 i)), .inl w, .inr (.inr 103)] σ _
  refine jw_W_n 1 (i' := 11) (ls' := [some (.inr (.inr 103)), some (.inl w), some (.inl i)]) (st' := [.inr (.inr 103), .inr (.inl (σ 133 i)), .inr (.inl (σ 132 i)), .inl w, .inr (.inr 103)]) rfl ?_
  refine jw_W_gf rfl rfl rfl ?_
  show jw_W (js_S n) _ md_262 12 [some (.inr (.inr 103)), some (.inl w), some (.inl i)] [.inr (.inr 134), .inr (.inl (σ 133 i)), .inr (.inl (σ 132 i)), .inl w, .inr (.inr 103)] σ _
  refine jw_W_n 1 (i' := 13) (ls' := [some (.inr (.inr 103)), some (.inl w), some (.inl i)]) (st' := [.inl i, .inr (.inr 134), .inr (.inl (σ 133 i)), .inr (.inl (σ 132 i)), .inl w, .inr (.inr 103)]) rfl ?_
  refine jw_W_la rfl rfl (by omega) (by omega) (by omega) ?_
  show jw_W (js_S n) _ md_262 14 [some (.inr (.inr 103)), some (.inl w), some (.inl i)] [.inr (.inl (σ 134 i)), .inr (.inl (σ 133 i)), .inr (.inl (σ 132 i)), .inl w, .inr (.inr 103)] σ _
  refine jw_W_call (as := [.inr (.inr 103), .inl w, .inr (.inl (σ 132 i)), .inr (.inl (σ 133 i)), .inr (.inl (σ 134 i))]) (rest := []) rfl rfl rfl rfl (Nat.le_of_ble_eq_true rfl) (.inr rfl) (jm_wished hP w0 w1) (by omega) ?_ rfl
  rintro r1 σ1 ⟨rfl, hs⟩
  rw [hs]
  show jw_W (js_S n) _ md_262 15 [some (.inr (.inr 103)), some (.inl w), some (.inl i)] [.inr (.inl (ge_f (jm_W σ w) (jm_ct σ i)))] σ _
  refine jw_W_lr rfl ?_
  exact ⟨rfl, rfl⟩
theorem jm_cc_bd {σ : jw_H} {i q : Int} (hb : jm_cbd σ) (i0 : 0 ≤ i) (i1 : i < σ 103 56) : jm_bg (jm_cc σ i q) ∧ 0 < σ 135 i ∧ σ 135 i ≤ 9200000000000000000 := by
  obtain ⟨⟨⟨x0, x1⟩, ⟨y0, y1⟩, ⟨z0, z1⟩, w0, w1⟩, h2⟩ := hb.2 i i0 i1
  simp only [jm_ct] at x0 x1 y0 y1 z0 z1 w0 w1 h2
  refine ⟨?_, by omega, by omega⟩
  unfold jm_bg jm_cc
  split
  · omega
  · split <;> omega
theorem jm_corner {n : Nat} {σ : jw_H} {i j : Int} (hP : jm_Pb σ) (hb : jm_cbd σ) (hi : jw_rg i) (hj : jw_rg j) : jw_T (js_S n) 3 261 [.inr (.inr 103), .inl i, .inl j] σ (fun r σ' => r = some (.inr (.inl (jm_cf σ i j))) ∧ σ' = σ) := by
  refine jw_T_of (D := 2) (M := mm_261) rfl (Nat.le_of_ble_eq_true rfl) (ls0 := [some (.inr (.inr 103)), some (.inl i), some (.inl j)]) rfl ?_ (by rintro _ _ ⟨rfl, -⟩; rfl)
  have hq := hP.1
  have hw := hP.2.1
  have hc := hb.1
  have rhi := hi
  unfold jw_rg at rhi
  have rhj := hj
  unfold jw_rg at rhj
  refine jw_W_n 1 (i' := 1) (ls' := [some (.inr (.inr 103)), some (.inl i), some (.inl j)]) (st' := [.inl i]) rfl ?_
  refine jw_W_if rfl (by unfold jw_rg; omega) (fun hc1 => ?_) (fun hc1 => ?_)
  · have hc1 : i < 0 := hc1
    refine jw_W_ld2 (z := (-1)) rfl rfl ?_
    refine jw_W_lr rfl ?_
    refine ⟨?_, rfl⟩
    simp only [jm_cf]
    first | rw [if_pos (by omega)] | rw [if_neg (by omega), if_pos (by omega)] | rw [if_neg (by omega), if_neg (by omega)]
  · have hc1 : ¬ (i < 0) := hc1
    refine jw_W_n 4 (i' := 6) (ls' := [some (.inr (.inr 103)), some (.inl i), some (.inl j)]) (st' := [.inr (.inr 103), .inl 2, .inl 0, .inl j]) rfl ?_
    refine jw_W_gf rfl rfl rfl ?_
    show jw_W (js_S n) _ md_261 7 [some (.inr (.inr 103)), some (.inl i), some (.inl j)] [.inl (σ 103 3), .inl 2, .inl 0, .inl j] σ _
    refine jw_W_n 3 (i' := 10) (ls' := [some (.inr (.inr 103)), some (.inl i), some (.inl j)]) (st' := [.inl ((2 * (σ 103 3)) - 1), .inl 0, .inl j]) rfl ?_
    refine jw_W_call (as := [.inl j, .inl 0, .inl ((2 * (σ 103 3)) - 1)]) (rest := []) rfl rfl rfl rfl (Nat.le_of_ble_eq_true rfl) (.inl rfl) (jm_in (by unfold jw_rg; omega) (by unfold jw_rg; omega) (by unfold jw_rg; omega)) (by omega) ?_ rfl
    rintro r1 σ1 (⟨rfl, hs, q3⟩ | ⟨rfl, hs, q3⟩)
    · rw [hs]
      show jw_W (js_S n) _ md_261 11 [some (.inr (.inr 103)), some (.inl i), some (.inl j)] [.inl 1] σ _
      refine jw_W_if rfl (by unfold jw_rg; omega) (fun hc2 => ?_) (fun hc2 => ?_)
      · clear hc2
        refine jw_W_n 2 (i' := 16) (ls' := [some (.inr (.inr 103)), some (.inl i), some (.inl j)]) (st' := [.inr (.inr 103), .inl i]) rfl ?_
        refine jw_W_gf rfl rfl rfl ?_
        show jw_W (js_S n) _ md_261 17 [some (.inr (.inr 103)), some (.inl i), some (.inl j)] [.inl (σ 103 56), .inl i] σ _
        refine jw_W_ic rfl (by unfold jw_rg; omega) (by unfold jw_rg; omega) (fun hc3 => ?_) (fun hc3 => ?_)
        · have hc3 : i < (σ 103 56) := hc3
          refine jw_W_n 4 (i' := 24) (ls' := [some (.inr (.inr 103)), some (.inl i), some (.inl j)]) (st' := [.inl 2, .inl j, .inl i, .inr (.inr 103)]) rfl ?_
          refine jw_W_idiv rfl (by unfold jw_rg; omega) (by omega) ?_
          rw [(jm_half j (by omega) (by omega)).1]
          refine jw_W_call (as := [.inr (.inr 103), .inl i, .inl (j / 2)]) (rest := []) rfl rfl rfl rfl (Nat.le_of_ble_eq_true rfl) (.inr rfl) (jm_cornerAt hb (by omega) (by omega) (by unfold jw_rg; omega)) (by omega) ?_ rfl
          rintro r1 σ1 ⟨rfl, hs⟩
          rw [hs]
          show jw_W (js_S n) _ md_261 26 [some (.inr (.inr 103)), some (.inl i), some (.inl j)] [.inr (.inl (jm_cc σ i (j / 2)))] σ _
          refine jw_W_n 1 (i' := 27) (ls' := [some (.inr (.inr 103)), some (.inl i), some (.inl j)]) (st' := [.inr (.inr 103), .inr (.inl (jm_cc σ i (j / 2)))]) rfl ?_
          refine jw_W_gf rfl rfl rfl ?_
          show jw_W (js_S n) _ md_261 28 [some (.inr (.inr 103)), some (.inl i), some (.inl j)] [.inr (.inr 135), .inr (.inl (jm_cc σ i (j / 2)))] σ _
          refine jw_W_n 1 (i' := 29) (ls' := [some (.inr (.inr 103)), some (.inl i), some (.inl j)]) (st' := [.inl i, .inr (.inr 135), .inr (.inl (jm_cc σ i (j / 2)))]) rfl ?_
          refine jw_W_la rfl rfl (by omega) (by omega) (by omega) ?_
          show jw_W (js_S n) _ md_261 30 [some (.inr (.inr 103)), some (.inl i), some (.inl j)] [.inr (.inl (σ 135 i)), .inr (.inl (jm_cc σ i (j / 2)))] σ _
          refine jw_W_n 2 (i' := 32) (ls' := [some (.inr (.inr 103)), some (.inl i), some (.inl j)]) (st' := [.inl 2, .inl j, .inr (.inl (σ 135 i)), .inr (.inl (jm_cc σ i (j / 2)))]) rfl ?_
          refine jw_W_irem rfl (by unfold jw_rg; omega) (by omega) ?_
          rw [(jm_half j (by omega) (by omega)).2]
          refine jw_W_call (as := [.inr (.inl (jm_cc σ i (j / 2))), .inr (.inl (σ 135 i)), .inl (j % 2)]) (rest := []) rfl rfl rfl rfl (Nat.le_of_ble_eq_true rfl) (.inl rfl) (jm_ofFr (jm_cc_bd hb (by omega) (by omega)).1 (jm_cc_bd (q := 0) hb (by omega) (by omega)).2.1 (jm_cc_bd (q := 0) hb (by omega) (by omega)).2.2 (by unfold jw_rg; omega)) (by omega) ?_ rfl
          rintro r1 σ1 ⟨rfl, hs⟩
          rw [hs]
          show jw_W (js_S n) _ md_261 34 [some (.inr (.inr 103)), some (.inl i), some (.inl j)] [.inr (.inl (jm_of (jm_cc σ i (j / 2)) (σ 135 i) (j % 2)))] σ _
          refine jw_W_lr rfl ?_
          refine ⟨?_, rfl⟩
          simp only [jm_cf]
          first | rw [if_pos (by omega)] | rw [if_neg (by omega), if_pos (by omega)] | rw [if_neg (by omega), if_neg (by omega)]
        · have hc3 : ¬ (i < (σ 103 56)) := hc3
          refine jw_W_ld2 (z := (-4)) rfl rfl ?_
          refine jw_W_n 1 (i' := 34) (ls' := [some (.inr (.inr 103)), some (.inl i), some (.inl j)]) (st' := [.inr (.inl ((-4)))]) rfl ?_
          refine jw_W_lr rfl ?_
          refine ⟨?_, rfl⟩
          simp only [jm_cf]
          first | rw [if_pos (by omega)] | rw [if_neg (by omega), if_pos (by omega)] | rw [if_neg (by omega), if_neg (by omega)]
      · exact absurd hc2 (show ¬ ¬ ((1 : Int) ≠ 0) by omega)
    · rw [hs]
      show jw_W (js_S n) _ md_261 11 [some (.inr (.inr 103)), some (.inl i), some (.inl j)] [.inl 0] σ _
      refine jw_W_if rfl (by unfold jw_rg; omega) (fun hc4 => ?_) (fun hc4 => ?_)
      · exact absurd hc4 (show ¬ ((0 : Int) ≠ 0) by omega)
      · clear hc4
        refine jw_W_ld2 (z := (-1)) rfl rfl ?_
        refine jw_W_lr rfl ?_
        refine ⟨?_, rfl⟩
        simp only [jm_cf]
        first | rw [if_pos (by omega)] | rw [if_neg (by omega), if_pos (by omega)] | rw [if_neg (by omega), if_neg (by omega)]
theorem jm_wf_bd {σ : jw_H} {i w : Int} (hP : jm_Pb σ) (hb : jm_cbd σ) (i0 : 0 ≤ i) (i1 : i < σ 103 56) (w0 : 0 ≤ w) (w1 : w < σ 103 4) : jm_bg (ge_f (jm_W σ w) (jm_ct σ i)) := by
  have h := jm_f_bd (jm_W_sm hP w0 w1) (hb.2 i i0 i1).1
  unfold jm_bg
  omega
theorem jm_wishAt {n : Nat} {σ : jw_H} {i w j : Int} (hP : jm_Pb σ) (hb : jm_cbd σ) (hi : jw_rg i) (hw : jw_rg w) (hj : jw_rg j) : jw_T (js_S n) 3 264 [.inr (.inr 103), .inl i, .inl w, .inl j] σ (fun r σ' => r = some (.inr (.inl (jm_waf σ i w j))) ∧ σ' = σ) := by
  refine jw_T_of (D := 2) (M := mm_264) rfl (Nat.le_of_ble_eq_true rfl) (ls0 := [some (.inr (.inr 103)), some (.inl i), some (.inl w), some (.inl j)]) rfl ?_ (by rintro _ _ ⟨rfl, -⟩; rfl)
  have hq := hP.1
  have hc := hb.1
  have rhi := hi
  unfold jw_rg at rhi
  have rhw := hw
  unfold jw_rg at rhw
  have rhj := hj
  unfold jw_rg at rhj
  refine jw_W_n 2 (i' := 2) (ls' := [some (.inr (.inr 103)), some (.inl i), some (.inl w), some (.inl j)]) (st' := [.inl i, .inr (.inr 103)]) rfl ?_
  refine jw_W_call (as := [.inr (.inr 103), .inl i]) (rest := []) rfl rfl rfl rfl (Nat.le_of_ble_eq_true rfl) (.inr rfl) (jm_isCorner hb hi) (by omega) ?_ rfl
  rintro r1 σ1 (⟨rfl, hs, q4⟩ | ⟨rfl, hs, q4⟩)
  · rw [hs]
    show jw_W (js_S n) _ md_264 3 [some (.inr (.inr 103)), some (.inl i), some (.inl w), some (.inl j)] [.inl 1] σ _
    refine jw_W_if rfl (by unfold jw_rg; omega) (fun hc1 => ?_) (fun hc1 => ?_)
    · exact absurd hc1 (show ¬ ((1 : Int) = 0) by omega)
    · clear hc1
      refine jw_W_n 2 (i' := 6) (ls' := [some (.inr (.inr 103)), some (.inl i), some (.inl w), some (.inl j)]) (st' := [.inl w, .inr (.inr 103)]) rfl ?_
      refine jw_W_call (as := [.inr (.inr 103), .inl w]) (rest := []) rfl rfl rfl rfl (Nat.le_of_ble_eq_true rfl) (.inr rfl) (jm_isWish hP hw) (by omega) ?_ rfl
      rintro r1 σ1 (⟨rfl, hs, q5⟩ | ⟨rfl, hs, q5⟩)
      · rw [hs]
        show jw_W (js_S n) _ md_264 7 [some (.inr (.inr 103)), some (.inl i), some (.inl w), some (.inl j)] [.inl 1] σ _
        refine jw_W_if rfl (by unfold jw_rg; omega) (fun hc2 => ?_) (fun hc2 => ?_)
        · exact absurd hc2 (show ¬ ((1 : Int) = 0) by omega)
        · clear hc2
          refine jw_W_n 3 (i' := 11) (ls' := [some (.inr (.inr 103)), some (.inl i), some (.inl w), some (.inl j)]) (st' := [.inl 1, .inl 0, .inl j]) rfl ?_
          refine jw_W_call (as := [.inl j, .inl 0, .inl 1]) (rest := []) rfl rfl rfl rfl (Nat.le_of_ble_eq_true rfl) (.inl rfl) (jm_in (by unfold jw_rg; omega) (by unfold jw_rg; omega) (by unfold jw_rg; omega)) (by omega) ?_ rfl
          rintro r1 σ1 (⟨rfl, hs, q6⟩ | ⟨rfl, hs, q6⟩)
          · rw [hs]
            show jw_W (js_S n) _ md_264 12 [some (.inr (.inr 103)), some (.inl i), some (.inl w), some (.inl j)] [.inl 1] σ _
            refine jw_W_if rfl (by unfold jw_rg; omega) (fun hc3 => ?_) (fun hc3 => ?_)
            · exact absurd hc3 (show ¬ ((1 : Int) = 0) by omega)
            · clear hc3
              refine jw_W_n 3 (i' := 16) (ls' := [some (.inr (.inr 103)), some (.inl i), some (.inl w), some (.inl j)]) (st' := [.inl i, .inl w, .inr (.inr 103)]) rfl ?_
              refine jw_W_call (as := [.inr (.inr 103), .inl w, .inl i]) (rest := []) rfl rfl rfl rfl (Nat.le_of_ble_eq_true rfl) (.inr rfl) (jm_wishedOf hP hb (by omega) (by omega) (by omega) (by omega)) (by omega) ?_ rfl
              rintro r1 σ1 ⟨rfl, hs⟩
              rw [hs]
              show jw_W (js_S n) _ md_264 17 [some (.inr (.inr 103)), some (.inl i), some (.inl w), some (.inl j)] [.inr (.inl (ge_f (jm_W σ w) (jm_ct σ i)))] σ _
              refine jw_W_n 1 (i' := 18) (ls' := [some (.inr (.inr 103)), some (.inl i), some (.inl w), some (.inl j)]) (st' := [.inr (.inr 103), .inr (.inl (ge_f (jm_W σ w) (jm_ct σ i)))]) rfl ?_
              refine jw_W_gf rfl rfl rfl ?_
              show jw_W (js_S n) _ md_264 19 [some (.inr (.inr 103)), some (.inl i), some (.inl w), some (.inl j)] [.inr (.inr 135), .inr (.inl (ge_f (jm_W σ w) (jm_ct σ i)))] σ _
              refine jw_W_n 1 (i' := 20) (ls' := [some (.inr (.inr 103)), some (.inl i), some (.inl w), some (.inl j)]) (st' := [.inl i, .inr (.inr 135), .inr (.inl (ge_f (jm_W σ w) (jm_ct σ i)))]) rfl ?_
              refine jw_W_la rfl rfl (by omega) (by omega) (by omega) ?_
              show jw_W (js_S n) _ md_264 21 [some (.inr (.inr 103)), some (.inl i), some (.inl w), some (.inl j)] [.inr (.inl (σ 135 i)), .inr (.inl (ge_f (jm_W σ w) (jm_ct σ i)))] σ _
              refine jw_W_n 1 (i' := 22) (ls' := [some (.inr (.inr 103)), some (.inl i), some (.inl w), some (.inl j)]) (st' := [.inl j, .inr (.inl (σ 135 i)), .inr (.inl (ge_f (jm_W σ w) (jm_ct σ i)))]) rfl ?_
              refine jw_W_call (as := [.inr (.inl (ge_f (jm_W σ w) (jm_ct σ i))), .inr (.inl (σ 135 i)), .inl j]) (rest := []) rfl rfl rfl rfl (Nat.le_of_ble_eq_true rfl) (.inl rfl) (jm_ofFr (jm_wf_bd hP hb (by omega) (by omega) (by omega) (by omega)) (jm_cc_bd (q := 0) hb (by omega) (by omega)).2.1 (jm_cc_bd (q := 0) hb (by omega) (by omega)).2.2 (by unfold jw_rg; omega)) (by omega) ?_ rfl
              rintro r1 σ1 ⟨rfl, hs⟩
              rw [hs]
              show jw_W (js_S n) _ md_264 23 [some (.inr (.inr 103)), some (.inl i), some (.inl w), some (.inl j)] [.inr (.inl (jm_of (ge_f (jm_W σ w) (jm_ct σ i)) (σ 135 i) j))] σ _
              refine jw_W_n 1 (i' := 25) (ls' := [some (.inr (.inr 103)), some (.inl i), some (.inl w), some (.inl j)]) (st' := [.inr (.inl (jm_of (ge_f (jm_W σ w) (jm_ct σ i)) (σ 135 i) j))]) rfl ?_
              refine jw_W_lr rfl ?_
              refine ⟨?_, rfl⟩
              simp only [jm_waf]
              first | rw [if_pos (by omega)] | rw [if_neg (by omega)]
          · rw [hs]
            show jw_W (js_S n) _ md_264 12 [some (.inr (.inr 103)), some (.inl i), some (.inl w), some (.inl j)] [.inl 0] σ _
            refine jw_W_if rfl (by unfold jw_rg; omega) (fun hc4 => ?_) (fun hc4 => ?_)
            · clear hc4
              refine jw_W_ld2 (z := (-100000000)) rfl rfl ?_
              refine jw_W_lr rfl ?_
              refine ⟨?_, rfl⟩
              simp only [jm_waf]
              first | rw [if_pos (by omega)] | rw [if_neg (by omega)]
            · exact absurd hc4 (show ¬ ¬ ((0 : Int) = 0) by omega)
      · rw [hs]
        show jw_W (js_S n) _ md_264 7 [some (.inr (.inr 103)), some (.inl i), some (.inl w), some (.inl j)] [.inl 0] σ _
        refine jw_W_if rfl (by unfold jw_rg; omega) (fun hc5 => ?_) (fun hc5 => ?_)
        · clear hc5
          refine jw_W_ld2 (z := (-100000000)) rfl rfl ?_
          refine jw_W_lr rfl ?_
          refine ⟨?_, rfl⟩
          simp only [jm_waf]
          first | rw [if_pos (by omega)] | rw [if_neg (by omega)]
        · exact absurd hc5 (show ¬ ¬ ((0 : Int) = 0) by omega)
  · rw [hs]
    show jw_W (js_S n) _ md_264 3 [some (.inr (.inr 103)), some (.inl i), some (.inl w), some (.inl j)] [.inl 0] σ _
    refine jw_W_if rfl (by unfold jw_rg; omega) (fun hc6 => ?_) (fun hc6 => ?_)
    · clear hc6
      refine jw_W_ld2 (z := (-100000000)) rfl rfl ?_
      refine jw_W_lr rfl ?_
      refine ⟨?_, rfl⟩
      simp only [jm_waf]
      first | rw [if_pos (by omega)] | rw [if_neg (by omega)]
    · exact absurd hc6 (show ¬ ¬ ((0 : Int) = 0) by omega)
/-- the answer of edge -/
def jm_ea (σ : jw_H) (i j v : Int) : Prop := (v = -1 ∧ ¬ ((0 ≤ i ∧ i < σ 103 56) ∧ (0 ≤ j ∧ j < σ 103 56) ∧ i ≠ j)) ∨ (((0 ≤ i ∧ i < σ 103 56) ∧ (0 ≤ j ∧ j < σ 103 56) ∧ i ≠ j) ∧ ((v = 2 ∧ jm_nx σ 138 i j) ∨ (v = 1 ∧ ¬ jm_nx σ 138 i j ∧ jm_nx σ 137 i j) ∨ (v = 0 ∧ ¬ jm_nx σ 138 i j ∧ ¬ jm_nx σ 137 i j)))
theorem jm_edge {n : Nat} {σ : jw_H} {i j : Int} (hb : jm_cbd σ) (hm137 : jm_mk (σ 103 56) σ 137) (hm138 : jm_mk (σ 103 56) σ 138) (hi : jw_rg i) (hj : jw_rg j) : jw_T (js_S n) 3 266 [.inr (.inr 103), .inl i, .inl j] σ (fun r σ' => ∃ v, r = some (.inl v) ∧ σ' = σ ∧ jm_ea σ i j v) := by
  refine jw_T_of (D := 2) (M := mm_266) rfl (Nat.le_of_ble_eq_true rfl) (ls0 := [some (.inr (.inr 103)), some (.inl i), some (.inl j)]) rfl ?_ (by rintro _ _ ⟨_, rfl, -⟩; rfl)
  have hc := hb.1
  have rhi := hi
  unfold jw_rg at rhi
  have rhj := hj
  unfold jw_rg at rhj
  refine jw_W_n 2 (i' := 2) (ls' := [some (.inr (.inr 103)), some (.inl i), some (.inl j)]) (st' := [.inl i, .inr (.inr 103)]) rfl ?_
  refine jw_W_call (as := [.inr (.inr 103), .inl i]) (rest := []) rfl rfl rfl rfl (Nat.le_of_ble_eq_true rfl) (.inr rfl) (jm_isCorner hb hi) (by omega) ?_ rfl
  rintro r1 σ1 (⟨rfl, hs, q7⟩ | ⟨rfl, hs, q7⟩)
  · rw [hs]
    show jw_W (js_S n) _ md_266 3 [some (.inr (.inr 103)), some (.inl i), some (.inl j)] [.inl 1] σ _
    refine jw_W_if rfl (by unfold jw_rg; omega) (fun hc1 => ?_) (fun hc1 => ?_)
    · exact absurd hc1 (show ¬ ((1 : Int) = 0) by omega)
    · clear hc1
      refine jw_W_n 2 (i' := 6) (ls' := [some (.inr (.inr 103)), some (.inl i), some (.inl j)]) (st' := [.inl j, .inr (.inr 103)]) rfl ?_
      refine jw_W_call (as := [.inr (.inr 103), .inl j]) (rest := []) rfl rfl rfl rfl (Nat.le_of_ble_eq_true rfl) (.inr rfl) (jm_isCorner hb hj) (by omega) ?_ rfl
      rintro r1 σ1 (⟨rfl, hs, q8⟩ | ⟨rfl, hs, q8⟩)
      · rw [hs]
        show jw_W (js_S n) _ md_266 7 [some (.inr (.inr 103)), some (.inl i), some (.inl j)] [.inl 1] σ _
        refine jw_W_if rfl (by unfold jw_rg; omega) (fun hc2 => ?_) (fun hc2 => ?_)
        · exact absurd hc2 (show ¬ ((1 : Int) = 0) by omega)
        · clear hc2
          refine jw_W_n 2 (i' := 10) (ls' := [some (.inr (.inr 103)), some (.inl i), some (.inl j)]) (st' := [.inl j, .inl i]) rfl ?_
          refine jw_W_ic rfl (by unfold jw_rg; omega) (by unfold jw_rg; omega) (fun hc3 => ?_) (fun hc3 => ?_)
          · have hc3 : i ≠ j := hc3
            refine jw_W_n 1 (i' := 14) (ls' := [some (.inr (.inr 103)), some (.inl i), some (.inl j)]) (st' := [.inr (.inr 103)]) rfl ?_
            refine jw_W_gf rfl rfl rfl ?_
            show jw_W (js_S n) _ md_266 15 [some (.inr (.inr 103)), some (.inl i), some (.inl j)] [.inr (.inr 138)] σ _
            refine jw_W_n 1 (i' := 16) (ls' := [some (.inr (.inr 103)), some (.inl i), some (.inl j)]) (st' := [.inl i, .inr (.inr 138)]) rfl ?_
            refine jw_W_ia rfl rfl (by omega) (by omega) (by omega) ?_
            show jw_W (js_S n) _ md_266 17 [some (.inr (.inr 103)), some (.inl i), some (.inl j)] [.inl (σ 138 i)] σ _
            refine jw_W_n 1 (i' := 18) (ls' := [some (.inr (.inr 103)), some (.inl i), some (.inl j)]) (st' := [.inl j, .inl (σ 138 i)]) rfl ?_
            refine jw_W_call (as := [.inl (σ 138 i), .inl j]) (rest := []) rfl rfl rfl rfl (Nat.le_of_ble_eq_true rfl) (.inl rfl) (jm_has (hm138 i (by omega) (by omega)).1 (by have := (hm138 i (by omega) (by omega)).2; omega) (by omega) (by omega)) (by omega) ?_ rfl
            rintro r1 σ1 (⟨rfl, hs, q9⟩ | ⟨rfl, hs, q9⟩)
            · rw [hs]
              have n138 : jm_nx σ 138 i j := q9
              show jw_W (js_S n) _ md_266 19 [some (.inr (.inr 103)), some (.inl i), some (.inl j)] [.inl 1] σ _
              refine jw_W_if rfl (by unfold jw_rg; omega) (fun hc4 => ?_) (fun hc4 => ?_)
              · exact absurd hc4 (show ¬ ((1 : Int) = 0) by omega)
              · clear hc4
                refine jw_W_n 2 (i' := 32) (ls' := [some (.inr (.inr 103)), some (.inl i), some (.inl j)]) (st' := [.inl 2]) rfl ?_
                refine jw_W_ir rfl ?_
                exact ⟨_, rfl, rfl, .inr ⟨by omega, .inl ⟨rfl, n138⟩⟩⟩
            · rw [hs]
              have n138 : ¬ jm_nx σ 138 i j := q9
              show jw_W (js_S n) _ md_266 19 [some (.inr (.inr 103)), some (.inl i), some (.inl j)] [.inl 0] σ _
              refine jw_W_if rfl (by unfold jw_rg; omega) (fun hc5 => ?_) (fun hc5 => ?_)
              · clear hc5
                refine jw_W_n 1 (i' := 23) (ls' := [some (.inr (.inr 103)), some (.inl i), some (.inl j)]) (st' := [.inr (.inr 103)]) rfl ?_
                refine jw_W_gf rfl rfl rfl ?_
                show jw_W (js_S n) _ md_266 24 [some (.inr (.inr 103)), some (.inl i), some (.inl j)] [.inr (.inr 137)] σ _
                refine jw_W_n 1 (i' := 25) (ls' := [some (.inr (.inr 103)), some (.inl i), some (.inl j)]) (st' := [.inl i, .inr (.inr 137)]) rfl ?_
                refine jw_W_ia rfl rfl (by omega) (by omega) (by omega) ?_
                show jw_W (js_S n) _ md_266 26 [some (.inr (.inr 103)), some (.inl i), some (.inl j)] [.inl (σ 137 i)] σ _
                refine jw_W_n 1 (i' := 27) (ls' := [some (.inr (.inr 103)), some (.inl i), some (.inl j)]) (st' := [.inl j, .inl (σ 137 i)]) rfl ?_
                refine jw_W_call (as := [.inl (σ 137 i), .inl j]) (rest := []) rfl rfl rfl rfl (Nat.le_of_ble_eq_true rfl) (.inl rfl) (jm_has (hm137 i (by omega) (by omega)).1 (by have := (hm137 i (by omega) (by omega)).2; omega) (by omega) (by omega)) (by omega) ?_ rfl
                rintro r1 σ1 (⟨rfl, hs, q10⟩ | ⟨rfl, hs, q10⟩)
                · rw [hs]
                  have n137 : jm_nx σ 137 i j := q10
                  show jw_W (js_S n) _ md_266 28 [some (.inr (.inr 103)), some (.inl i), some (.inl j)] [.inl 1] σ _
                  refine jw_W_if rfl (by unfold jw_rg; omega) (fun hc6 => ?_) (fun hc6 => ?_)
                  · exact absurd hc6 (show ¬ ((1 : Int) = 0) by omega)
                  · clear hc6
                    refine jw_W_n 2 (i' := 32) (ls' := [some (.inr (.inr 103)), some (.inl i), some (.inl j)]) (st' := [.inl 1]) rfl ?_
                    refine jw_W_ir rfl ?_
                    exact ⟨_, rfl, rfl, .inr ⟨by omega, .inr (.inl ⟨rfl, n138, n137⟩)⟩⟩
                · rw [hs]
                  have n137 : ¬ jm_nx σ 137 i j := q10
                  show jw_W (js_S n) _ md_266 28 [some (.inr (.inr 103)), some (.inl i), some (.inl j)] [.inl 0] σ _
                  refine jw_W_if rfl (by unfold jw_rg; omega) (fun hc7 => ?_) (fun hc7 => ?_)
                  · clear hc7
                    refine jw_W_n 1 (i' := 32) (ls' := [some (.inr (.inr 103)), some (.inl i), some (.inl j)]) (st' := [.inl 0]) rfl ?_
                    refine jw_W_ir rfl ?_
                    exact ⟨_, rfl, rfl, .inr ⟨by omega, .inr (.inr ⟨rfl, n138, n137⟩)⟩⟩
                  · exact absurd hc7 (show ¬ ¬ ((0 : Int) = 0) by omega)
              · exact absurd hc5 (show ¬ ¬ ((0 : Int) = 0) by omega)
          · have hc3 : i = j := Classical.not_not.mp hc3
            refine jw_W_n 1 (i' := 12) (ls' := [some (.inr (.inr 103)), some (.inl i), some (.inl j)]) (st' := [.inl ((-1))]) rfl ?_
            refine jw_W_ir rfl ?_
            exact ⟨_, rfl, rfl, .inl ⟨rfl, by omega⟩⟩
      · rw [hs]
        show jw_W (js_S n) _ md_266 7 [some (.inr (.inr 103)), some (.inl i), some (.inl j)] [.inl 0] σ _
        refine jw_W_if rfl (by unfold jw_rg; omega) (fun hc8 => ?_) (fun hc8 => ?_)
        · clear hc8
          refine jw_W_n 1 (i' := 12) (ls' := [some (.inr (.inr 103)), some (.inl i), some (.inl j)]) (st' := [.inl ((-1))]) rfl ?_
          refine jw_W_ir rfl ?_
          exact ⟨_, rfl, rfl, .inl ⟨rfl, by omega⟩⟩
        · exact absurd hc8 (show ¬ ¬ ((0 : Int) = 0) by omega)
  · rw [hs]
    show jw_W (js_S n) _ md_266 3 [some (.inr (.inr 103)), some (.inl i), some (.inl j)] [.inl 0] σ _
    refine jw_W_if rfl (by unfold jw_rg; omega) (fun hc9 => ?_) (fun hc9 => ?_)
    · clear hc9
      refine jw_W_n 1 (i' := 12) (ls' := [some (.inr (.inr 103)), some (.inl i), some (.inl j)]) (st' := [.inl ((-1))]) rfl ?_
      refine jw_W_ir rfl ?_
      exact ⟨_, rfl, rfl, .inl ⟨rfl, by omega⟩⟩
    · exact absurd hc9 (show ¬ ¬ ((0 : Int) = 0) by omega)

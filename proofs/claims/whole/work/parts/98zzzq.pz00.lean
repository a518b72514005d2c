/-! ===== the law: letters (String.indexOf) ===== -/
/-- which letter: i a b c t n e -/
def jl_fact (x : Int) : Int := if x = 105 then 0 else if x = 97 then 1 else if x = 98 then 2 else if x = 99 then 3 else if x = 116 then 4 else if x = 110 then 5 else if x = 101 then 6 else (-1)
def jl_w1 (j : Int) : Int := if j = 0 then 105 else if j = 1 then 97 else if j = 2 then 98 else if j = 3 then 99 else if j = 4 then 116 else if j = 5 then 110 else 101
def jl_st (σ : jw_H) : Prop := jk_sw σ 1 7 jl_w1
theorem jl_b0 : ∀ v : Fin 256, (jw_b ((v.val : Nat) : Int) = ((v.val : Nat) : Int) ∧ v.val < 128) ∨ (jw_b ((v.val : Nat) : Int) = ((v.val : Nat) : Int) - 256 ∧ 128 ≤ v.val) := by decide +kernel
theorem jl_b {x : Int} (h : 0 ≤ x ∧ x ≤ 255) : (jw_b x = x ∧ x < 128) ∨ (jw_b x = x - 256 ∧ 128 ≤ x) := by
  obtain ⟨k, rfl⟩ : ∃ k : Nat, x = k := ⟨x.toNat, by omega⟩
  have := jl_b0 ⟨k, by omega⟩
  simp only at this
  omega
theorem jl_ch0 : ∀ v : Fin 256, jw_ch ((v.val : Nat) : Int) = ((v.val : Nat) : Int) := by decide +kernel
theorem jl_ch {x : Int} (h : 0 ≤ x ∧ x ≤ 255) : jw_ch x = x := by
  obtain ⟨k, rfl⟩ : ∃ k : Nat, x = k := ⟨x.toNat, by omega⟩
  exact jl_ch0 ⟨k, by omega⟩
theorem jl_fact_rg (x : Int) : -1 ≤ jl_fact x ∧ jl_fact x ≤ 6 := by
  unfold jl_fact
  repeat' split
  all_goals omega
theorem jl_enc {n : Nat} {σ : jw_H} {x : Int} (hx : 0 ≤ x ∧ x ≤ 255)  : jw_T (js_S n) 1 348 [.inl x] σ (fun r σ' => r = some (.inl (1)) ∧ σ' = σ) := by
  refine jw_T_of (D := 0) (M := mm_348) rfl (Nat.le_of_ble_eq_true rfl) (ls0 := [some (.inl x)]) rfl ?_ (by rintro _ _ ⟨rfl, -⟩; rfl)
  refine jw_W_n 1 (i' := 1) (ls' := [some (.inl x)]) (st' := [.inl x]) rfl ?_
  refine jw_W_if rfl (by unfold jw_rg; omega) (fun hc1 => ?_) (fun hc1 => ?_)
  · have hc1 : x < 0 := hc1
    exfalso; omega
  · have hc1 : ¬ (x < 0) := hc1
    refine jw_W_n 2 (i' := 4) (ls' := [some (.inl x)]) (st' := [.inl 255, .inl x]) rfl ?_
    refine jw_W_ic rfl (by unfold jw_rg; omega) (by unfold jw_rg; omega) (fun hc2 => ?_) (fun hc2 => ?_)
    · have hc2 : x > 255 := hc2
      exfalso; omega
    · have hc2 : ¬ (x > 255) := hc2
      refine jw_W_n 2 (i' := 8) (ls' := [some (.inl x)]) (st' := [.inl 1]) rfl ?_
      refine jw_W_ir rfl ?_
      exact ⟨rfl, rfl⟩
theorem jl_iof {n : Nat} {σ : jw_H} (hst : jl_st σ) {x : Int} (hx : 0 ≤ x ∧ x ≤ 255)  : jw_T (js_S n) 1 350 [.inr (.inr 2), .inl x, .inl 0, .inl 7] σ (fun r σ' => r = some (.inl (jl_fact x)) ∧ σ' = σ) := by
  refine jw_T_of (D := 0) (M := mm_350) rfl (Nat.le_of_ble_eq_true rfl) (ls0 := [some (.inr (.inr 2)), some (.inl x), some (.inl 0), some (.inl 7), none, none]) rfl ?_ (by rintro _ _ ⟨rfl, -⟩; rfl)
  have hb := jl_b hx
  refine jw_W_n 3 (i' := 3) (ls' := [some (.inr (.inr 2)), some (.inl x), some (.inl 0), some (.inl 7), some (.inl (jw_b x)), none]) (st' := []) rfl ?_
  generalize hbx : jw_b x = y
  rw [hbx] at hb
  refine jw_W_n 4 (i' := 7) (ls' := [some (.inr (.inr 2)), some (.inl x), some (.inl 0), some (.inl 7), some (.inl y), some (.inl 0)]) (st' := [.inl 7, .inl 0]) rfl ?_
  refine jw_W_ic rfl (by unfold jw_rg; omega) (by unfold jw_rg; omega) (fun hc1 => ?_) (fun hc1 => ?_)
  · exact absurd hc1 (show ¬ ((0 : Int) ≥ 7) by omega)
  · clear hc1
    refine jw_W_n 2 (i' := 10) (ls' := [some (.inr (.inr 2)), some (.inl x), some (.inl 0), some (.inl 7), some (.inl y), some (.inl 0)]) (st' := [.inl 0, .inr (.inr 2)]) rfl ?_
    refine jw_W_ba rfl rfl (by decide) (by omega) (by omega) (by omega) ?_
    show jw_W (js_S n) _ md_350 11 [some (.inr (.inr 2)), some (.inl x), some (.inl 0), some (.inl 7), some (.inl y), some (.inl 0)] [.inl (σ 2 0)] σ _
    rw [(hst.2 0 (by omega) (by omega)).1, show jl_w1 0 = 105 from rfl]
    refine jw_W_n 1 (i' := 12) (ls' := [some (.inr (.inr 2)), some (.inl x), some (.inl 0), some (.inl 7), some (.inl y), some (.inl 0)]) (st' := [.inl y, .inl 105]) rfl ?_
    refine jw_W_ic rfl (by unfold jw_rg; omega) (by unfold jw_rg; omega) (fun hc2 => ?_) (fun hc2 => ?_)
    · have hc2 : 105 ≠ y := hc2
      refine jw_W_n 4 (i' := 7) (ls' := [some (.inr (.inr 2)), some (.inl x), some (.inl 0), some (.inl 7), some (.inl y), some (.inl 1)]) (st' := [.inl 7, .inl 1]) rfl ?_
      refine jw_W_ic rfl (by unfold jw_rg; omega) (by unfold jw_rg; omega) (fun hc3 => ?_) (fun hc3 => ?_)
      · exact absurd hc3 (show ¬ ((1 : Int) ≥ 7) by omega)
      · clear hc3
        refine jw_W_n 2 (i' := 10) (ls' := [some (.inr (.inr 2)), some (.inl x), some (.inl 0), some (.inl 7), some (.inl y), some (.inl 1)]) (st' := [.inl 1, .inr (.inr 2)]) rfl ?_
        refine jw_W_ba rfl rfl (by decide) (by omega) (by omega) (by omega) ?_
        show jw_W (js_S n) _ md_350 11 [some (.inr (.inr 2)), some (.inl x), some (.inl 0), some (.inl 7), some (.inl y), some (.inl 1)] [.inl (σ 2 1)] σ _
        rw [(hst.2 1 (by omega) (by omega)).1, show jl_w1 1 = 97 from rfl]
        refine jw_W_n 1 (i' := 12) (ls' := [some (.inr (.inr 2)), some (.inl x), some (.inl 0), some (.inl 7), some (.inl y), some (.inl 1)]) (st' := [.inl y, .inl 97]) rfl ?_
        refine jw_W_ic rfl (by unfold jw_rg; omega) (by unfold jw_rg; omega) (fun hc4 => ?_) (fun hc4 => ?_)
        · have hc4 : 97 ≠ y := hc4
          refine jw_W_n 4 (i' := 7) (ls' := [some (.inr (.inr 2)), some (.inl x), some (.inl 0), some (.inl 7), some (.inl y), some (.inl 2)]) (st' := [.inl 7, .inl 2]) rfl ?_
          refine jw_W_ic rfl (by unfold jw_rg; omega) (by unfold jw_rg; omega) (fun hc5 => ?_) (fun hc5 => ?_)
          · exact absurd hc5 (show ¬ ((2 : Int) ≥ 7) by omega)
          · clear hc5
            refine jw_W_n 2 (i' := 10) (ls' := [some (.inr (.inr 2)), some (.inl x), some (.inl 0), some (.inl 7), some (.inl y), some (.inl 2)]) (st' := [.inl 2, .inr (.inr 2)]) rfl ?_
            refine jw_W_ba rfl rfl (by decide) (by omega) (by omega) (by omega) ?_
            show jw_W (js_S n) _ md_350 11 [some (.inr (.inr 2)), some (.inl x), some (.inl 0), some (.inl 7), some (.inl y), some (.inl 2)] [.inl (σ 2 2)] σ _
            rw [(hst.2 2 (by omega) (by omega)).1, show jl_w1 2 = 98 from rfl]
            refine jw_W_n 1 (i' := 12) (ls' := [some (.inr (.inr 2)), some (.inl x), some (.inl 0), some (.inl 7), some (.inl y), some (.inl 2)]) (st' := [.inl y, .inl 98]) rfl ?_
            refine jw_W_ic rfl (by unfold jw_rg; omega) (by unfold jw_rg; omega) (fun hc6 => ?_) (fun hc6 => ?_)
            · have hc6 : 98 ≠ y := hc6
              refine jw_W_n 4 (i' := 7) (ls' := [some (.inr (.inr 2)), some (.inl x), some (.inl 0), some (.inl 7), some (.inl y), some (.inl 3)]) (st' := [.inl 7, .inl 3]) rfl ?_
              refine jw_W_ic rfl (by unfold jw_rg; omega) (by unfold jw_rg; omega) (fun hc7 => ?_) (fun hc7 => ?_)
              · exact absurd hc7 (show ¬ ((3 : Int) ≥ 7) by omega)
              · clear hc7
                refine jw_W_n 2 (i' := 10) (ls' := [some (.inr (.inr 2)), some (.inl x), some (.inl 0), some (.inl 7), some (.inl y), some (.inl 3)]) (st' := [.inl 3, .inr (.inr 2)]) rfl ?_
                refine jw_W_ba rfl rfl (by decide) (by omega) (by omega) (by omega) ?_
                show jw_W (js_S n) _ md_350 11 [some (.inr (.inr 2)), some (.inl x), some (.inl 0), some (.inl 7), some (.inl y), some (.inl 3)] [.inl (σ 2 3)] σ _
                rw [(hst.2 3 (by omega) (by omega)).1, show jl_w1 3 = 99 from rfl]
                refine jw_W_n 1 (i' := 12) (ls' := [some (.inr (.inr 2)), some (.inl x), some (.inl 0), some (.inl 7), some (.inl y), some (.inl 3)]) (st' := [.inl y, .inl 99]) rfl ?_
                refine jw_W_ic rfl (by unfold jw_rg; omega) (by unfold jw_rg; omega) (fun hc8 => ?_) (fun hc8 => ?_)
                · have hc8 : 99 ≠ y := hc8
                  refine jw_W_n 4 (i' := 7) (ls' := [some (.inr (.inr 2)), some (.inl x), some (.inl 0), some (.inl 7), some (.inl y), some (.inl 4)]) (st' := [.inl 7, .inl 4]) rfl ?_
                  refine jw_W_ic rfl (by unfold jw_rg; omega) (by unfold jw_rg; omega) (fun hc9 => ?_) (fun hc9 => ?_)
                  · exact absurd hc9 (show ¬ ((4 : Int) ≥ 7) by omega)
                  · clear hc9
                    refine jw_W_n 2 (i' := 10) (ls' := [some (.inr (.inr 2)), some (.inl x), some (.inl 0), some (.inl 7), some (.inl y), some (.inl 4)]) (st' := [.inl 4, .inr (.inr 2)]) rfl ?_
                    refine jw_W_ba rfl rfl (by decide) (by omega) (by omega) (by omega) ?_
                    show jw_W (js_S n) _ md_350 11 [some (.inr (.inr 2)), some (.inl x), some (.inl 0), some (.inl 7), some (.inl y), some (.inl 4)] [.inl (σ 2 4)] σ _
                    rw [(hst.2 4 (by omega) (by omega)).1, show jl_w1 4 = 116 from rfl]
                    refine jw_W_n 1 (i' := 12) (ls' := [some (.inr (.inr 2)), some (.inl x), some (.inl 0), some (.inl 7), some (.inl y), some (.inl 4)]) (st' := [.inl y, .inl 116]) rfl ?_
                    refine jw_W_ic rfl (by unfold jw_rg; omega) (by unfold jw_rg; omega) (fun hc10 => ?_) (fun hc10 => ?_)
                    · have hc10 : 116 ≠ y := hc10
                      refine jw_W_n 4 (i' := 7) (ls' := [some (.inr (.inr 2)), some (.inl x), some (.inl 0), some (.inl 7), some (.inl y), some (.inl 5)]) (st' := [.inl 7, .inl 5]) rfl ?_
                      refine jw_W_ic rfl (by unfold jw_rg; omega) (by unfold jw_rg; omega) (fun hc11 => ?_) (fun hc11 => ?_)
                      · exact absurd hc11 (show ¬ ((5 : Int) ≥ 7) by omega)
                      · clear hc11
                        refine jw_W_n 2 (i' := 10) (ls' := [some (.inr (.inr 2)), some (.inl x), some (.inl 0), some (.inl 7), some (.inl y), some (.inl 5)]) (st' := [.inl 5, .inr (.inr 2)]) rfl ?_
                        refine jw_W_ba rfl rfl (by decide) (by omega) (by omega) (by omega) ?_
                        show jw_W (js_S n) _ md_350 11 [some (.inr (.inr 2)), some (.inl x), some (.inl 0), some (.inl 7), some (.inl y), some (.inl 5)] [.inl (σ 2 5)] σ _
                        rw [(hst.2 5 (by omega) (by omega)).1, show jl_w1 5 = 110 from rfl]
                        refine jw_W_n 1 (i' := 12) (ls' := [some (.inr (.inr 2)), some (.inl x), some (.inl 0), some (.inl 7), some (.inl y), some (.inl 5)]) (st' := [.inl y, .inl 110]) rfl ?_
                        refine jw_W_ic rfl (by unfold jw_rg; omega) (by unfold jw_rg; omega) (fun hc12 => ?_) (fun hc12 => ?_)
                        · have hc12 : 110 ≠ y := hc12
                          refine jw_W_n 4 (i' := 7) (ls' := [some (.inr (.inr 2)), some (.inl x), some (.inl 0), some (.inl 7), some (.inl y), some (.inl 6)]) (st' := [.inl 7, .inl 6]) rfl ?_
                          refine jw_W_ic rfl (by unfold jw_rg; omega) (by unfold jw_rg; omega) (fun hc13 => ?_) (fun hc13 => ?_)
                          · exact absurd hc13 (show ¬ ((6 : Int) ≥ 7) by omega)
                          · clear hc13
                            refine jw_W_n 2 (i' := 10) (ls' := [some (.inr (.inr 2)), some (.inl x), some (.inl 0), some (.inl 7), some (.inl y), some (.inl 6)]) (st' := [.inl 6, .inr (.inr 2)]) rfl ?_
                            refine jw_W_ba rfl rfl (by decide) (by omega) (by omega) (by omega) ?_
                            show jw_W (js_S n) _ md_350 11 [some (.inr (.inr 2)), some (.inl x), some (.inl 0), some (.inl 7), some (.inl y), some (.inl 6)] [.inl (σ 2 6)] σ _
                            rw [(hst.2 6 (by omega) (by omega)).1, show jl_w1 6 = 101 from rfl]
                            refine jw_W_n 1 (i' := 12) (ls' := [some (.inr (.inr 2)), some (.inl x), some (.inl 0), some (.inl 7), some (.inl y), some (.inl 6)]) (st' := [.inl y, .inl 101]) rfl ?_
                            refine jw_W_ic rfl (by unfold jw_rg; omega) (by unfold jw_rg; omega) (fun hc14 => ?_) (fun hc14 => ?_)
                            · have hc14 : 101 ≠ y := hc14
                              refine jw_W_n 4 (i' := 7) (ls' := [some (.inr (.inr 2)), some (.inl x), some (.inl 0), some (.inl 7), some (.inl y), some (.inl 7)]) (st' := [.inl 7, .inl 7]) rfl ?_
                              refine jw_W_ic rfl (by unfold jw_rg; omega) (by unfold jw_rg; omega) (fun hc15 => ?_) (fun hc15 => ?_)
                              · clear hc15
                                refine jw_W_n 1 (i' := 18) (ls' := [some (.inr (.inr 2)), some (.inl x), some (.inl 0), some (.inl 7), some (.inl y), some (.inl 7)]) (st' := [.inl ((-1))]) rfl ?_
                                refine jw_W_ir rfl ?_
                                exact ⟨by unfold jl_fact; rw [if_neg (by omega), if_neg (by omega), if_neg (by omega), if_neg (by omega), if_neg (by omega), if_neg (by omega), if_neg (by omega)], rfl⟩
                              · exact absurd hc15 (show ¬ ¬ ((7 : Int) ≥ 7) by omega)
                            · have hc14 : 101 = y := Classical.not_not.mp hc14
                              refine jw_W_n 1 (i' := 14) (ls' := [some (.inr (.inr 2)), some (.inl x), some (.inl 0), some (.inl 7), some (.inl y), some (.inl 6)]) (st' := [.inl 6]) rfl ?_
                              refine jw_W_ir rfl ?_
                              exact ⟨by unfold jl_fact; rw [if_neg (by omega), if_neg (by omega), if_neg (by omega), if_neg (by omega), if_neg (by omega), if_neg (by omega), if_pos (by omega)], rfl⟩
                        · have hc12 : 110 = y := Classical.not_not.mp hc12
                          refine jw_W_n 1 (i' := 14) (ls' := [some (.inr (.inr 2)), some (.inl x), some (.inl 0), some (.inl 7), some (.inl y), some (.inl 5)]) (st' := [.inl 5]) rfl ?_
                          refine jw_W_ir rfl ?_
                          exact ⟨by unfold jl_fact; rw [if_neg (by omega), if_neg (by omega), if_neg (by omega), if_neg (by omega), if_neg (by omega), if_pos (by omega)], rfl⟩
                    · have hc10 : 116 = y := Classical.not_not.mp hc10
                      refine jw_W_n 1 (i' := 14) (ls' := [some (.inr (.inr 2)), some (.inl x), some (.inl 0), some (.inl 7), some (.inl y), some (.inl 4)]) (st' := [.inl 4]) rfl ?_
                      refine jw_W_ir rfl ?_
                      exact ⟨by unfold jl_fact; rw [if_neg (by omega), if_neg (by omega), if_neg (by omega), if_neg (by omega), if_pos (by omega)], rfl⟩
                · have hc8 : 99 = y := Classical.not_not.mp hc8
                  refine jw_W_n 1 (i' := 14) (ls' := [some (.inr (.inr 2)), some (.inl x), some (.inl 0), some (.inl 7), some (.inl y), some (.inl 3)]) (st' := [.inl 3]) rfl ?_
                  refine jw_W_ir rfl ?_
                  exact ⟨by unfold jl_fact; rw [if_neg (by omega), if_neg (by omega), if_neg (by omega), if_pos (by omega)], rfl⟩
            · have hc6 : 98 = y := Classical.not_not.mp hc6
              refine jw_W_n 1 (i' := 14) (ls' := [some (.inr (.inr 2)), some (.inl x), some (.inl 0), some (.inl 7), some (.inl y), some (.inl 2)]) (st' := [.inl 2]) rfl ?_
              refine jw_W_ir rfl ?_
              exact ⟨by unfold jl_fact; rw [if_neg (by omega), if_neg (by omega), if_pos (by omega)], rfl⟩
        · have hc4 : 97 = y := Classical.not_not.mp hc4
          refine jw_W_n 1 (i' := 14) (ls' := [some (.inr (.inr 2)), some (.inl x), some (.inl 0), some (.inl 7), some (.inl y), some (.inl 1)]) (st' := [.inl 1]) rfl ?_
          refine jw_W_ir rfl ?_
          exact ⟨by unfold jl_fact; rw [if_neg (by omega), if_pos (by omega)], rfl⟩
    · have hc2 : 105 = y := Classical.not_not.mp hc2
      refine jw_W_n 1 (i' := 14) (ls' := [some (.inr (.inr 2)), some (.inl x), some (.inl 0), some (.inl 7), some (.inl y), some (.inl 0)]) (st' := [.inl 0]) rfl ?_
      refine jw_W_ir rfl ?_
      exact ⟨by unfold jl_fact; rw [if_pos (by omega)], rfl⟩
theorem jl_iofL {n : Nat} {σ : jw_H} (hst : jl_st σ) {x : Int} (hx : 0 ≤ x ∧ x ≤ 255)  : jw_T (js_S n) 2 349 [.inr (.inr 2), .inl x, .inl 0, .inl 7] σ (fun r σ' => r = some (.inl (jl_fact x)) ∧ σ' = σ) := by
  refine jw_T_of (D := 1) (M := mm_349) rfl (Nat.le_of_ble_eq_true rfl) (ls0 := [some (.inr (.inr 2)), some (.inl x), some (.inl 0), some (.inl 7)]) rfl ?_ (by rintro _ _ ⟨rfl, -⟩; rfl)
  refine jw_W_n 1 (i' := 1) (ls' := [some (.inr (.inr 2)), some (.inl x), some (.inl 0), some (.inl 7)]) (st' := [.inl x]) rfl ?_
  refine jw_W_call (as := [.inl x]) (rest := []) rfl rfl rfl rfl (Nat.le_of_ble_eq_true rfl) (.inl rfl) (jl_enc hx) (by omega) ?_ rfl
  rintro r1 σz ⟨rfl, hs⟩
  rw [hs]
  show jw_W (js_S n) _ md_349 2 [some (.inr (.inr 2)), some (.inl x), some (.inl 0), some (.inl 7)] [.inl 1] σ _
  refine jw_W_if rfl (by unfold jw_rg; omega) (fun hc1 => ?_) (fun hc1 => ?_)
  · clear hc1
    refine jw_W_n 2 (i' := 7) (ls' := [some (.inr (.inr 2)), some (.inl x), some (.inl 0), some (.inl 7)]) (st' := [.inl 0, .inl 0]) rfl ?_
    refine jw_W_max rfl rfl (by unfold jw_rg; omega) (by unfold jw_rg; omega) (Nat.le_of_ble_eq_true rfl) ?_
    show jw_W (js_S n) _ md_349 8 [some (.inr (.inr 2)), some (.inl x), some (.inl 0), some (.inl 7)] [.inl 0] σ _
    refine jw_W_n 3 (i' := 11) (ls' := [some (.inr (.inr 2)), some (.inl x), some (.inl 0), some (.inl 7)]) (st' := [.inr (.inr 2), .inl 7]) rfl ?_
    refine jw_W_al rfl rfl ?_
    show jw_W (js_S n) _ md_349 12 [some (.inr (.inr 2)), some (.inl x), some (.inl 0), some (.inl 7)] [.inl 7, .inl 7] σ _
    refine jw_W_min rfl rfl (by unfold jw_rg; omega) (by unfold jw_rg; omega) (Nat.le_of_ble_eq_true rfl) ?_
    show jw_W (js_S n) _ md_349 13 [some (.inr (.inr 2)), some (.inl x), some (.inl 0), some (.inl 7)] [.inl 7] σ _
    refine jw_W_n 3 (i' := 16) (ls' := [some (.inr (.inr 2)), some (.inl x), some (.inl 0), some (.inl 7)]) (st' := [.inl 7, .inl 0]) rfl ?_
    refine jw_W_ic rfl (by unfold jw_rg; omega) (by unfold jw_rg; omega) (fun hc2 => ?_) (fun hc2 => ?_)
    · clear hc2
      refine jw_W_n 4 (i' := 23) (ls' := [some (.inr (.inr 2)), some (.inl x), some (.inl 0), some (.inl 7)]) (st' := [.inl 7, .inl 0, .inl x, .inr (.inr 2)]) rfl ?_
      refine jw_W_call (as := [.inr (.inr 2), .inl x, .inl 0, .inl 7]) (rest := []) rfl rfl rfl rfl (Nat.le_of_ble_eq_true rfl) (.inl rfl) (jl_iof hst hx) (by omega) ?_ rfl
      rintro r1 σz ⟨rfl, hs⟩
      rw [hs]
      show jw_W (js_S n) _ md_349 24 [some (.inr (.inr 2)), some (.inl x), some (.inl 0), some (.inl 7)] [.inl (jl_fact x)] σ _
      refine jw_W_ir rfl ?_
      exact ⟨rfl, rfl⟩
    · exact absurd hc2 (show ¬ ¬ ((0 : Int) < 7) by omega)
  · exact absurd hc1 (show ¬ ¬ ((1 : Int) ≠ 0) by omega)
theorem jl_indexOf2 {n : Nat} {σ : jw_H} (hst : jl_st σ) {x : Int} (hx : 0 ≤ x ∧ x ≤ 255)  : jw_T (js_S n) 3 342 [.inr (.inr 1), .inl x, .inl 0] σ (fun r σ' => r = some (.inl (jl_fact x)) ∧ σ' = σ) := by
  refine jw_T_of (D := 2) (M := mm_342) rfl (Nat.le_of_ble_eq_true rfl) (ls0 := [some (.inr (.inr 1)), some (.inl x), some (.inl 0)]) rfl ?_ (by rintro _ _ ⟨rfl, -⟩; rfl)
  refine jw_W_n 1 (i' := 1) (ls' := [some (.inr (.inr 1)), some (.inl x), some (.inl 0)]) (st' := [.inr (.inr 1)]) rfl ?_
  refine jw_W_call (as := [.inr (.inr 1)]) (rest := []) rfl rfl rfl rfl (Nat.le_of_ble_eq_true rfl) (.inr rfl) (jk_latin (z := 1) (L := 7) (w := jl_w1) ⟨trivial, rfl, rfl⟩ hst) (by omega) ?_ rfl
  rintro r1 σz ⟨rfl, hs⟩
  rw [hs]
  show jw_W (js_S n) _ md_342 2 [some (.inr (.inr 1)), some (.inl x), some (.inl 0)] [.inl 1] σ _
  refine jw_W_if rfl (by unfold jw_rg; omega) (fun hc1 => ?_) (fun hc1 => ?_)
  · exact absurd hc1 (show ¬ ((1 : Int) = 0) by omega)
  · clear hc1
    refine jw_W_n 1 (i' := 4) (ls' := [some (.inr (.inr 1)), some (.inl x), some (.inl 0)]) (st' := [.inr (.inr 1)]) rfl ?_
    refine jw_W_gf rfl rfl rfl ?_
    show jw_W (js_S n) _ md_342 5 [some (.inr (.inr 1)), some (.inl x), some (.inl 0)] [.inr (.inr 2)] σ _
    refine jw_W_n 3 (i' := 8) (ls' := [some (.inr (.inr 1)), some (.inl x), some (.inl 0)]) (st' := [.inr (.inr 1), .inl 0, .inl x, .inr (.inr 2)]) rfl ?_
    refine jw_W_call (as := [.inr (.inr 1)]) (rest := [.inl 0, .inl x, .inr (.inr 2)]) rfl rfl rfl rfl (Nat.le_of_ble_eq_true rfl) (.inr rfl) (jk_len (z := 1) (L := 7) (w := jl_w1) ⟨trivial, rfl, rfl⟩ hst) (by omega) ?_ rfl
    rintro r1 σz ⟨rfl, hs⟩
    rw [hs]
    show jw_W (js_S n) _ md_342 9 [some (.inr (.inr 1)), some (.inl x), some (.inl 0)] [.inl 7, .inl 0, .inl x, .inr (.inr 2)] σ _
    refine jw_W_call (as := [.inr (.inr 2), .inl x, .inl 0, .inl 7]) (rest := []) rfl rfl rfl rfl (Nat.le_of_ble_eq_true rfl) (.inl rfl) (jl_iofL hst hx) (by omega) ?_ rfl
    rintro r1 σz ⟨rfl, hs⟩
    rw [hs]
    show jw_W (js_S n) _ md_342 10 [some (.inr (.inr 1)), some (.inl x), some (.inl 0)] [.inl (jl_fact x)] σ _
    refine jw_W_n 1 (i' := 18) (ls' := [some (.inr (.inr 1)), some (.inl x), some (.inl 0)]) (st' := [.inl (jl_fact x)]) rfl ?_
    refine jw_W_ir rfl ?_
    exact ⟨rfl, rfl⟩
theorem jl_indexOf {n : Nat} {σ : jw_H} (hst : jl_st σ) {x : Int} (hx : 0 ≤ x ∧ x ≤ 255)  : jw_T (js_S n) 4 341 [.inr (.inr 1), .inl x] σ (fun r σ' => r = some (.inl (jl_fact x)) ∧ σ' = σ) := by
  refine jw_T_of (D := 3) (M := mm_341) rfl (Nat.le_of_ble_eq_true rfl) (ls0 := [some (.inr (.inr 1)), some (.inl x)]) rfl ?_ (by rintro _ _ ⟨rfl, -⟩; rfl)
  refine jw_W_n 3 (i' := 3) (ls' := [some (.inr (.inr 1)), some (.inl x)]) (st' := [.inl 0, .inl x, .inr (.inr 1)]) rfl ?_
  refine jw_W_call (as := [.inr (.inr 1), .inl x, .inl 0]) (rest := []) rfl rfl rfl rfl (Nat.le_of_ble_eq_true rfl) (.inr rfl) (jl_indexOf2 hst hx) (by omega) ?_ rfl
  rintro r1 σz ⟨rfl, hs⟩
  rw [hs]
  show jw_W (js_S n) _ md_341 4 [some (.inr (.inr 1)), some (.inl x)] [.inl (jl_fact x)] σ _
  refine jw_W_ir rfl ?_
  exact ⟨rfl, rfl⟩
theorem jl_factOf {n : Nat} {σ : jw_H} {x : Int} (hx : -1 ≤ x ∧ x ≤ 255)  : jw_T (js_S n) 1 194 [.inl x] σ (fun r σ' => r = some (.inl (jl_fact x)) ∧ σ' = σ) := by
  refine jw_T_of (D := 0) (M := mm_194) rfl (Nat.le_of_ble_eq_true rfl) (ls0 := [some (.inl x)]) rfl ?_ (by rintro _ _ ⟨rfl, -⟩; rfl)
  refine jw_W_n 1 (i' := 1) (ls' := [some (.inl x)]) (st' := [.inl x]) rfl ?_
  refine jw_W_sw rfl (by unfold jw_rg; omega) rfl (fun hc1 => ?_) (fun hc1a hc1b t ht => ?_)
  · have hc1 : x < 97 ∨ 116 < x := hc1
    refine jw_W_n 1 (i' := 17) (ls' := [some (.inl x)]) (st' := [.inl ((-1))]) rfl ?_
    refine jw_W_ir rfl ?_
    refine ⟨?_, rfl⟩
    congr 2
    unfold jl_fact
    repeat' split
    all_goals omega
  · rcases (show x = 97 ∨ x = 98 ∨ x = 99 ∨ x = 100 ∨ x = 101 ∨ x = 102 ∨ x = 103 ∨ x = 104 ∨ x = 105 ∨ x = 106 ∨ x = 107 ∨ x = 108 ∨ x = 109 ∨ x = 110 ∨ x = 111 ∨ x = 112 ∨ x = 113 ∨ x = 114 ∨ x = 115 ∨ x = 116 by omega) with hc1 | hc1 | hc1 | hc1 | hc1 | hc1 | hc1 | hc1 | hc1 | hc1 | hc1 | hc1 | hc1 | hc1 | hc1 | hc1 | hc1 | hc1 | hc1 | hc1
    · obtain rfl : 4 = t := by rw [hc1] at ht; exact Option.some.inj ht
      refine jw_W_n 1 (i' := 5) (ls' := [some (.inl x)]) (st' := [.inl 1]) rfl ?_
      refine jw_W_ir rfl ?_
      refine ⟨?_, rfl⟩
      congr 2
      unfold jl_fact
      repeat' split
      all_goals omega
    · obtain rfl : 6 = t := by rw [hc1] at ht; exact Option.some.inj ht
      refine jw_W_n 1 (i' := 7) (ls' := [some (.inl x)]) (st' := [.inl 2]) rfl ?_
      refine jw_W_ir rfl ?_
      refine ⟨?_, rfl⟩
      congr 2
      unfold jl_fact
      repeat' split
      all_goals omega
    · obtain rfl : 8 = t := by rw [hc1] at ht; exact Option.some.inj ht
      refine jw_W_n 1 (i' := 9) (ls' := [some (.inl x)]) (st' := [.inl 3]) rfl ?_
      refine jw_W_ir rfl ?_
      refine ⟨?_, rfl⟩
      congr 2
      unfold jl_fact
      repeat' split
      all_goals omega
    · obtain rfl : 16 = t := by rw [hc1] at ht; exact Option.some.inj ht
      refine jw_W_n 1 (i' := 17) (ls' := [some (.inl x)]) (st' := [.inl ((-1))]) rfl ?_
      refine jw_W_ir rfl ?_
      refine ⟨?_, rfl⟩
      congr 2
      unfold jl_fact
      repeat' split
      all_goals omega
    · obtain rfl : 14 = t := by rw [hc1] at ht; exact Option.some.inj ht
      refine jw_W_n 1 (i' := 15) (ls' := [some (.inl x)]) (st' := [.inl 6]) rfl ?_
      refine jw_W_ir rfl ?_
      refine ⟨?_, rfl⟩
      congr 2
      unfold jl_fact
      repeat' split
      all_goals omega
    · obtain rfl : 16 = t := by rw [hc1] at ht; exact Option.some.inj ht
      refine jw_W_n 1 (i' := 17) (ls' := [some (.inl x)]) (st' := [.inl ((-1))]) rfl ?_
      refine jw_W_ir rfl ?_
      refine ⟨?_, rfl⟩
      congr 2
      unfold jl_fact
      repeat' split
      all_goals omega
    · obtain rfl : 16 = t := by rw [hc1] at ht; exact Option.some.inj ht
      refine jw_W_n 1 (i' := 17) (ls' := [some (.inl x)]) (st' := [.inl ((-1))]) rfl ?_
      refine jw_W_ir rfl ?_
      refine ⟨?_, rfl⟩
      congr 2
      unfold jl_fact
      repeat' split
      all_goals omega
    · obtain rfl : 16 = t := by rw [hc1] at ht; exact Option.some.inj ht
      refine jw_W_n 1 (i' := 17) (ls' := [some (.inl x)]) (st' := [.inl ((-1))]) rfl ?_
      refine jw_W_ir rfl ?_
      refine ⟨?_, rfl⟩
      congr 2
      unfold jl_fact
      repeat' split
      all_goals omega
    · obtain rfl : 2 = t := by rw [hc1] at ht; exact Option.some.inj ht
      refine jw_W_n 1 (i' := 3) (ls' := [some (.inl x)]) (st' := [.inl 0]) rfl ?_
      refine jw_W_ir rfl ?_
      refine ⟨?_, rfl⟩
      congr 2
      unfold jl_fact
      repeat' split
      all_goals omega
    · obtain rfl : 16 = t := by rw [hc1] at ht; exact Option.some.inj ht
      refine jw_W_n 1 (i' := 17) (ls' := [some (.inl x)]) (st' := [.inl ((-1))]) rfl ?_
      refine jw_W_ir rfl ?_
      refine ⟨?_, rfl⟩
      congr 2
      unfold jl_fact
      repeat' split
      all_goals omega
    · obtain rfl : 16 = t := by rw [hc1] at ht; exact Option.some.inj ht
      refine jw_W_n 1 (i' := 17) (ls' := [some (.inl x)]) (st' := [.inl ((-1))]) rfl ?_
      refine jw_W_ir rfl ?_
      refine ⟨?_, rfl⟩
      congr 2
      unfold jl_fact
      repeat' split
      all_goals omega
    · obtain rfl : 16 = t := by rw [hc1] at ht; exact Option.some.inj ht
      refine jw_W_n 1 (i' := 17) (ls' := [some (.inl x)]) (st' := [.inl ((-1))]) rfl ?_
      refine jw_W_ir rfl ?_
      refine ⟨?_, rfl⟩
      congr 2
      unfold jl_fact
      repeat' split
      all_goals omega
    · obtain rfl : 16 = t := by rw [hc1] at ht; exact Option.some.inj ht
      refine jw_W_n 1 (i' := 17) (ls' := [some (.inl x)]) (st' := [.inl ((-1))]) rfl ?_
      refine jw_W_ir rfl ?_
      refine ⟨?_, rfl⟩
      congr 2
      unfold jl_fact
      repeat' split
      all_goals omega
    · obtain rfl : 12 = t := by rw [hc1] at ht; exact Option.some.inj ht
      refine jw_W_n 1 (i' := 13) (ls' := [some (.inl x)]) (st' := [.inl 5]) rfl ?_
      refine jw_W_ir rfl ?_
      refine ⟨?_, rfl⟩
      congr 2
      unfold jl_fact
      repeat' split
      all_goals omega
    · obtain rfl : 16 = t := by rw [hc1] at ht; exact Option.some.inj ht
      refine jw_W_n 1 (i' := 17) (ls' := [some (.inl x)]) (st' := [.inl ((-1))]) rfl ?_
      refine jw_W_ir rfl ?_
      refine ⟨?_, rfl⟩
      congr 2
      unfold jl_fact
      repeat' split
      all_goals omega
    · obtain rfl : 16 = t := by rw [hc1] at ht; exact Option.some.inj ht
      refine jw_W_n 1 (i' := 17) (ls' := [some (.inl x)]) (st' := [.inl ((-1))]) rfl ?_
      refine jw_W_ir rfl ?_
      refine ⟨?_, rfl⟩
      congr 2
      unfold jl_fact
      repeat' split
      all_goals omega
    · obtain rfl : 16 = t := by rw [hc1] at ht; exact Option.some.inj ht
      refine jw_W_n 1 (i' := 17) (ls' := [some (.inl x)]) (st' := [.inl ((-1))]) rfl ?_
      refine jw_W_ir rfl ?_
      refine ⟨?_, rfl⟩
      congr 2
      unfold jl_fact
      repeat' split
      all_goals omega
    · obtain rfl : 16 = t := by rw [hc1] at ht; exact Option.some.inj ht
      refine jw_W_n 1 (i' := 17) (ls' := [some (.inl x)]) (st' := [.inl ((-1))]) rfl ?_
      refine jw_W_ir rfl ?_
      refine ⟨?_, rfl⟩
      congr 2
      unfold jl_fact
      repeat' split
      all_goals omega
    · obtain rfl : 16 = t := by rw [hc1] at ht; exact Option.some.inj ht
      refine jw_W_n 1 (i' := 17) (ls' := [some (.inl x)]) (st' := [.inl ((-1))]) rfl ?_
      refine jw_W_ir rfl ?_
      refine ⟨?_, rfl⟩
      congr 2
      unfold jl_fact
      repeat' split
      all_goals omega
    · obtain rfl : 10 = t := by rw [hc1] at ht; exact Option.some.inj ht
      refine jw_W_n 1 (i' := 11) (ls' := [some (.inl x)]) (st' := [.inl 4]) rfl ?_
      refine jw_W_ir rfl ?_
      refine ⟨?_, rfl⟩
      congr 2
      unfold jl_fact
      repeat' split
      all_goals omega

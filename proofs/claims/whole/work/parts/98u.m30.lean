/-! ===== the reference's answer of plan ===== -/
/-- the answer of plan -/
def jm_pa (σ : jw_H) (x y z v : Int) : Prop := (v = -1 ∧ ¬ jm_ip σ x y z) ∨ (jm_ip σ x y z ∧ ((v = 0 ∧ ¬ ge_F (jm_RR (σ 103 3) (jm_bA σ)) (x, y, z, 1)) ∨ (ge_F (jm_RR (σ 103 3) (jm_bA σ)) (x, y, z, 1) ∧ ((v = 2 ∧ ¬ jm_Ef σ (x, y, z, 1)) ∨ (v = 1 ∧ jm_Ef σ (x, y, z, 1))))))
theorem jm_plan {n : Nat} {σ : jw_H} {x y z : Int} {C : List (ge_R × Int)} (hP : jm_Pb σ) (hN : jm_Ns σ) (hK : jm_kn σ C) (hx : jw_rg x) (hy : jw_rg y) (hz : jw_rg z) : jw_T (js_S n) 7 304 [.inr (.inr 103), .inl x, .inl y, .inl z] σ (fun r σ' => ∃ v, r = some (.inl v) ∧ (σ' = σ ∨ jm_fe σ σ') ∧ jm_pa σ x y z v) := by
  refine jw_T_of (D := 6) (M := mm_304) rfl (Nat.le_of_ble_eq_true rfl) (ls0 := [some (.inr (.inr 103)), some (.inl x), some (.inl y), some (.inl z)]) rfl ?_ (by rintro _ _ ⟨_, rfl, -⟩; rfl)
  have rhx := hx
  unfold jw_rg at rhx
  have rhy := hy
  unfold jw_rg at rhy
  have rhz := hz
  unfold jw_rg at rhz
  refine jw_W_n 4 (i' := 4) (ls' := [some (.inr (.inr 103)), some (.inl x), some (.inl y), some (.inl z)]) (st' := [.inl z, .inl y, .inl x, .inr (.inr 103)]) rfl ?_
  refine jw_W_call (as := [.inr (.inr 103), .inl x, .inl y, .inl z]) (rest := []) rfl rfl rfl rfl (Nat.le_of_ble_eq_true rfl) (.inr rfl) (jm_isPlan hP hx hy hz) (by omega) ?_ rfl
  rintro r1 σ1 (⟨rfl, hs, hip⟩ | ⟨rfl, hs, hip⟩)
  · rw [hs]
    show jw_W (js_S n) _ md_304 5 [some (.inr (.inr 103)), some (.inl x), some (.inl y), some (.inl z)] [.inl 1] σ _
    refine jw_W_if rfl (by unfold jw_rg; omega) (fun hc1 => ?_) (fun hc1 => ?_)
    · clear hc1
      refine jw_W_n 4 (i' := 12) (ls' := [some (.inr (.inr 103)), some (.inl x), some (.inl y), some (.inl z)]) (st' := [.inl z, .inl y, .inl x, .inr (.inr 103)]) rfl ?_
      refine jw_W_call (as := [.inr (.inr 103), .inl x, .inl y, .inl z]) (rest := []) rfl rfl rfl rfl (Nat.le_of_ble_eq_true rfl) (.inr rfl) (jm_isAllowed hP hip) (by omega) ?_ rfl
      rintro r1 σ1 (⟨rfl, hs, hal⟩ | ⟨rfl, hs, hal⟩)
      · rw [hs]
        show jw_W (js_S n) _ md_304 13 [some (.inr (.inr 103)), some (.inl x), some (.inl y), some (.inl z)] [.inl 1] σ _
        refine jw_W_if rfl (by unfold jw_rg; omega) (fun hc2 => ?_) (fun hc2 => ?_)
        · clear hc2
          refine jw_W_n 2 (i' := 18) (ls' := [some (.inr (.inr 103)), some (.inl x), some (.inl y), some (.inl z)]) (st' := [.inl x, .inr (.inr 103)]) rfl ?_
          refine jw_W_i2l rfl (by unfold jw_rg; omega) ?_
          refine jw_W_n 1 (i' := 20) (ls' := [some (.inr (.inr 103)), some (.inl x), some (.inl y), some (.inl z)]) (st' := [.inl y, .inr (.inl x), .inr (.inr 103)]) rfl ?_
          refine jw_W_i2l rfl (by unfold jw_rg; omega) ?_
          refine jw_W_n 1 (i' := 22) (ls' := [some (.inr (.inr 103)), some (.inl x), some (.inl y), some (.inl z)]) (st' := [.inl z, .inr (.inl y), .inr (.inl x), .inr (.inr 103)]) rfl ?_
          refine jw_W_i2l rfl (by unfold jw_rg; omega) ?_
          refine jw_W_n 1 (i' := 24) (ls' := [some (.inr (.inr 103)), some (.inl x), some (.inl y), some (.inl z)]) (st' := [.inr (.inl 1), .inr (.inl z), .inr (.inl y), .inr (.inl x), .inr (.inr 103)]) rfl ?_
          refine jw_W_call (as := [.inr (.inr 103), .inr (.inl x), .inr (.inl y), .inr (.inl z), .inr (.inl 1)]) (rest := []) rfl rfl rfl rfl (Nat.le_of_ble_eq_true rfl) (.inr rfl) (jm_isEff2 hP hN hK (by omega) hal) (by omega) ?_ rfl
          rintro r1 σ1 (⟨rfl, hfe, hE⟩ | ⟨rfl, hfe, hE⟩)
          · rename jw_H => σ3
            show jw_W (js_S n) _ md_304 25 [some (.inr (.inr 103)), some (.inl x), some (.inl y), some (.inl z)] [.inl 1] σ3 _
            refine jw_W_if rfl (by unfold jw_rg; omega) (fun hc3 => ?_) (fun hc3 => ?_)
            · exact absurd hc3 (show ¬ ((1 : Int) = 0) by omega)
            · clear hc3
              refine jw_W_n 2 (i' := 29) (ls' := [some (.inr (.inr 103)), some (.inl x), some (.inl y), some (.inl z)]) (st' := [.inl 2]) rfl ?_
              refine jw_W_ir rfl ?_
              exact ⟨_, rfl, .inr hfe, .inr ⟨hip, .inr ⟨hal, .inl ⟨rfl, hE⟩⟩⟩⟩
          · rename jw_H => σ3
            show jw_W (js_S n) _ md_304 25 [some (.inr (.inr 103)), some (.inl x), some (.inl y), some (.inl z)] [.inl 0] σ3 _
            refine jw_W_if rfl (by unfold jw_rg; omega) (fun hc4 => ?_) (fun hc4 => ?_)
            · clear hc4
              refine jw_W_n 1 (i' := 29) (ls' := [some (.inr (.inr 103)), some (.inl x), some (.inl y), some (.inl z)]) (st' := [.inl 1]) rfl ?_
              refine jw_W_ir rfl ?_
              exact ⟨_, rfl, .inr hfe, .inr ⟨hip, .inr ⟨hal, .inr ⟨rfl, hE⟩⟩⟩⟩
            · exact absurd hc4 (show ¬ ¬ ((0 : Int) = 0) by omega)
        · exact absurd hc2 (show ¬ ¬ ((1 : Int) ≠ 0) by omega)
      · rw [hs]
        show jw_W (js_S n) _ md_304 13 [some (.inr (.inr 103)), some (.inl x), some (.inl y), some (.inl z)] [.inl 0] σ _
        refine jw_W_if rfl (by unfold jw_rg; omega) (fun hc5 => ?_) (fun hc5 => ?_)
        · exact absurd hc5 (show ¬ ((0 : Int) ≠ 0) by omega)
        · clear hc5
          refine jw_W_n 2 (i' := 29) (ls' := [some (.inr (.inr 103)), some (.inl x), some (.inl y), some (.inl z)]) (st' := [.inl 0]) rfl ?_
          refine jw_W_ir rfl ?_
          exact ⟨_, rfl, .inl rfl, .inr ⟨hip, .inl ⟨rfl, hal⟩⟩⟩
    · exact absurd hc1 (show ¬ ¬ ((1 : Int) ≠ 0) by omega)
  · rw [hs]
    show jw_W (js_S n) _ md_304 5 [some (.inr (.inr 103)), some (.inl x), some (.inl y), some (.inl z)] [.inl 0] σ _
    refine jw_W_if rfl (by unfold jw_rg; omega) (fun hc6 => ?_) (fun hc6 => ?_)
    · exact absurd hc6 (show ¬ ((0 : Int) ≠ 0) by omega)
    · clear hc6
      refine jw_W_n 1 (i' := 7) (ls' := [some (.inr (.inr 103)), some (.inl x), some (.inl y), some (.inl z)]) (st' := [.inl ((-1))]) rfl ?_
      refine jw_W_ir rfl ?_
      exact ⟨_, rfl, .inl rfl, .inl ⟨rfl, hip⟩⟩

/-! ===== middle: class and reference ===== -/
theorem jk_KJ_y {n o : Nat} {C : List (ge_R × Int)} {σ0 σ : jw_H} (hy : jx_fy σ0 σ) (hJ : jx_KJ n o C σ0) : jx_KJ n o C σ := by
  have hx := jx_I0_x hJ.1
  exact ⟨jx_I0_fx (jx_fy_x hy) hJ.1, jm_KN_me (jx_fx_me (jx_fy_x hy)) hJ.2.1, by rw [hy.1 57 (by omega) (by omega)]; exact hJ.2.2.1, jx_jd_y hy hx.2.2.2.2.2.2.2.1 (by have := hx.2.2.2.2.2.2.2.2.1.1; omega) hJ.2.2.2⟩
def jk_68 (σ σ' : jw_H) : Prop := (∀ o, o ≠ 103 → σ' o = σ o) ∧ ∀ j, (j < 68 ∨ 69 < j) → σ' 103 j = σ 103 j
theorem jk_68_up {σ σ' : jw_H} {j v : Int} (h : jk_68 σ σ') (hj : 68 ≤ j ∧ j ≤ 69) : jk_68 σ (jw_up σ' 103 j v) := ⟨fun o ho => by rw [jw_up_out _ _ _ ho]; exact h.1 o ho, fun j' hj' => by rw [jw_up_ne _ (by omega)]; exact h.2 j' hj'⟩
theorem jk_68_tr {σ σ1 σ2 : jw_H} (a : jk_68 σ σ1) (b : jk_68 σ1 σ2) : jk_68 σ σ2 := ⟨fun o h => (b.1 o h).trans (a.1 o h), fun j h => (b.2 j h).trans (a.2 j h)⟩
theorem jk_68_z {σ σ' : jw_H} {C : List (ge_R × Int)} (hKN : jm_KN σ C) (h : jk_68 σ σ') : jm_fz σ σ' := by
  refine ⟨fun o _ h2 => h.1 o h2, fun j hj => h.2 j (by omega), ?_⟩
  unfold jm_Ns
  rw [h.1 131 (by omega)]
  exact hKN.1.2.2.2.2.1
theorem jk_adds {n : Nat} {σ : jw_H} {x w N K : Int} (hK : 0 < K ∧ K ≤ 8500000000000000) (hN : 0 ≤ N ∧ N ≤ 180 * K) (hw : 0 < w ∧ w ≤ 162) (hx : 0 ≤ x ∧ x ≤ 9 * w) (hd : w ∣ K) (H : (σ 103 68, σ 103 69) = jx_fr N K)  : jw_T (js_S n) 3 310 [.inr (.inr 103), .inr (.inl x), .inr (.inl w)] σ (fun r σ' => r = none ∧ jk_68 σ σ' ∧ (σ' 103 68, σ' 103 69) = jx_fr (N + x * (K / w)) K) := by
  refine jw_T_of (D := 2) (M := mm_310) rfl (Nat.le_of_ble_eq_true rfl) (ls0 := [some (.inr (.inr 103)), some (.inr (.inl x)), none, some (.inr (.inl w)), none, none, none, none, none, none, none, none, none, none, none]) rfl ?_ (by rintro _ _ ⟨rfl, -⟩; rfl)
  have hof := jk_of0 (u := x) (l := w) hw.1
  obtain ⟨g, g0, e1, e2⟩ := jx_fr_gl (u := x) hw.1
  have l0 := jx_fr_pos (u := x) (l := w) (by omega)
  have l1 := jx_fr_le (u := x) (l := w) hw.1
  have u0 : 0 ≤ (jx_fr x w).1 := Int.le_of_mul_le_mul_right (a := g) (by rw [Int.zero_mul]; omega) g0
  have u1 : (jx_fr x w).1 ≤ 9 * (jx_fr x w).2 := Int.le_of_mul_le_mul_right (a := g) (by rw [Int.mul_assoc]; omega) g0
  have hdl : (jx_fr x w).2 ∣ K := Int.dvd_trans ⟨g, e2⟩ hd
  obtain ⟨⟨a1, a2⟩, ⟨a3, a4⟩, a5⟩ := jk_ad hK hN l0 ⟨u0, u1⟩ hdl
  have eN : (jx_fr x w).1 * (K / (jx_fr x w).2) = x * (K / w) := by
    obtain ⟨k, hk⟩ := hd
    have k1 : K / w = k := by
      rw [hk]
      exact Int.mul_ediv_cancel_left _ (by omega)
    have k2 : K / (jx_fr x w).2 = g * k := by
      have : K = (jx_fr x w).2 * (g * k) := by rw [← Int.mul_assoc, ← e2]; exact hk
      rw [this]
      exact Int.mul_ediv_cancel_left _ (by omega)
    rw [k1, k2, ← Int.mul_assoc, ← e1]
  rw [eN] at a5
  have h8 : σ 103 68 = (jx_fr N K).1 := congrArg Prod.fst H
  have h9 : σ 103 69 = (jx_fr N K).2 := congrArg Prod.snd H
  have a6 := a5
  unfold jx_ad at a6
  rw [← h8] at a1
  rw [← h8, ← h9] at a3 a6
  rw [← h9] at a2 a4
  have a1b := a1
  unfold jm_bg at a1b
  have g1 := Int.gcd_pos_of_ne_zero_right (σ 103 69) (b := (jx_fr x w).2) (by omega)
  have g2 : (Int.gcd (σ 103 69) (jx_fr x w).2 : Int) ≤ (jx_fr x w).2 := Int.le_of_dvd l0 (Int.gcd_dvd_right _ _)
  have f1 := jm_ldiv_ex (x := (jx_fr x w).2) (by unfold jm_bg; omega) (show 0 < (Int.gcd (σ 103 69) (jx_fr x w).2 : Int) by omega) (by omega) (Int.gcd_dvd_right _ _)
  have f2 := jm_ldiv_ex (x := σ 103 69) (by unfold jm_bg; omega) (show 0 < (Int.gcd (σ 103 69) (jx_fr x w).2 : Int) by omega) (by omega) (Int.gcd_dvd_left _ _)
  have hS2 : jm_bg (σ 103 68 * ((jx_fr x w).2 / (Int.gcd (σ 103 69) ((jx_fr x w).2) : Int)) + (jx_fr x w).1 * (σ 103 69 / (Int.gcd (σ 103 69) ((jx_fr x w).2) : Int))) := a3
  have hT0 : 0 < σ 103 69 / (Int.gcd (σ 103 69) ((jx_fr x w).2) : Int) * (jx_fr x w).2 := a4.1
  have hT1 : σ 103 69 / (Int.gcd (σ 103 69) ((jx_fr x w).2) : Int) * (jx_fr x w).2 ≤ 8500000000000000 := a4.2
  have hofS := jk_of0 (u := σ 103 68 * ((jx_fr x w).2 / (Int.gcd (σ 103 69) ((jx_fr x w).2) : Int)) + (jx_fr x w).1 * (σ 103 69 / (Int.gcd (σ 103 69) ((jx_fr x w).2) : Int))) (l := σ 103 69 / (Int.gcd (σ 103 69) ((jx_fr x w).2) : Int) * (jx_fr x w).2) hT0
  have hS3 := hS2
  unfold jm_bg at hS3
  have frS := jx_fr_bd (u := σ 103 68 * ((jx_fr x w).2 / (Int.gcd (σ 103 69) ((jx_fr x w).2) : Int)) + (jx_fr x w).1 * (σ 103 69 / (Int.gcd (σ 103 69) ((jx_fr x w).2) : Int))) (l := σ 103 69 / (Int.gcd (σ 103 69) ((jx_fr x w).2) : Int) * (jx_fr x w).2) (B := 9200000000000000000) hT0 (by omega) hS3
  have hfin : ((jx_fr (σ 103 68 * ((jx_fr x w).2 / (Int.gcd (σ 103 69) ((jx_fr x w).2) : Int)) + (jx_fr x w).1 * (σ 103 69 / (Int.gcd (σ 103 69) ((jx_fr x w).2) : Int))) (σ 103 69 / (Int.gcd (σ 103 69) ((jx_fr x w).2) : Int) * (jx_fr x w).2)).1, (jx_fr (σ 103 68 * ((jx_fr x w).2 / (Int.gcd (σ 103 69) ((jx_fr x w).2) : Int)) + (jx_fr x w).1 * (σ 103 69 / (Int.gcd (σ 103 69) ((jx_fr x w).2) : Int))) (σ 103 69 / (Int.gcd (σ 103 69) ((jx_fr x w).2) : Int) * (jx_fr x w).2)).2) = jx_fr (N + x * (K / w)) K := a6
  refine jw_W_n 3 (i' := 3) (ls' := [some (.inr (.inr 103)), some (.inr (.inl x)), none, some (.inr (.inl w)), none, none, none, none, none, none, none, none, none, none, none]) (st' := [.inl 0, .inr (.inl w), .inr (.inl x)]) rfl ?_
  refine jw_W_call (as := [.inr (.inl x), .inr (.inl w), .inl 0]) (rest := []) rfl rfl rfl rfl (Nat.le_of_ble_eq_true rfl) (.inl rfl) (jm_ofFr (by unfold jm_bg; omega) (by omega) (by omega) (by unfold jw_rg; omega)) (by omega) ?_ rfl
  rintro r1 σz ⟨rfl, hs⟩
  rw [hs]
  rw [hof.1]
  show jw_W (js_S n) _ md_310 4 [some (.inr (.inr 103)), some (.inr (.inl x)), none, some (.inr (.inl w)), none, none, none, none, none, none, none, none, none, none, none] [.inr (.inl ((jx_fr x w).1))] σ _
  refine jw_W_n 4 (i' := 8) (ls' := [some (.inr (.inr 103)), some (.inr (.inl x)), none, some (.inr (.inl w)), none, some (.inr (.inl ((jx_fr x w).1))), none, none, none, none, none, none, none, none, none]) (st' := [.inl 1, .inr (.inl w), .inr (.inl x)]) rfl ?_
  refine jw_W_call (as := [.inr (.inl x), .inr (.inl w), .inl 1]) (rest := []) rfl rfl rfl rfl (Nat.le_of_ble_eq_true rfl) (.inl rfl) (jm_ofFr (by unfold jm_bg; omega) (by omega) (by omega) (by unfold jw_rg; omega)) (by omega) ?_ rfl
  rintro r1 σz ⟨rfl, hs⟩
  rw [hs]
  rw [hof.2]
  show jw_W (js_S n) _ md_310 9 [some (.inr (.inr 103)), some (.inr (.inl x)), none, some (.inr (.inl w)), none, some (.inr (.inl ((jx_fr x w).1))), none, none, none, none, none, none, none, none, none] [.inr (.inl ((jx_fr x w).2))] σ _
  refine jw_W_n 2 (i' := 11) (ls' := [some (.inr (.inr 103)), some (.inr (.inl x)), none, some (.inr (.inl w)), none, some (.inr (.inl ((jx_fr x w).1))), none, some (.inr (.inl ((jx_fr x w).2))), none, none, none, none, none, none, none]) (st' := [.inr (.inr 103)]) rfl ?_
  refine jw_W_gf rfl rfl rfl ?_
  show jw_W (js_S n) _ md_310 12 [some (.inr (.inr 103)), some (.inr (.inl x)), none, some (.inr (.inl w)), none, some (.inr (.inl ((jx_fr x w).1))), none, some (.inr (.inl ((jx_fr x w).2))), none, none, none, none, none, none, none] [.inr (.inl (σ 103 69))] σ _
  refine jw_W_n 1 (i' := 13) (ls' := [some (.inr (.inr 103)), some (.inr (.inl x)), none, some (.inr (.inl w)), none, some (.inr (.inl ((jx_fr x w).1))), none, some (.inr (.inl ((jx_fr x w).2))), none, none, none, none, none, none, none]) (st' := [.inr (.inl ((jx_fr x w).2)), .inr (.inl (σ 103 69))]) rfl ?_
  refine jw_W_call (as := [.inr (.inl (σ 103 69)), .inr (.inl ((jx_fr x w).2))]) (rest := []) rfl rfl rfl rfl (Nat.le_of_ble_eq_true rfl) (.inl rfl) (jm_gcd (by unfold jw_rgl; omega) (by omega) (by unfold jw_rgl; omega) (by omega)) (by omega) ?_ rfl
  rintro r1 σz ⟨rfl, hs⟩
  rw [hs]
  show jw_W (js_S n) _ md_310 14 [some (.inr (.inr 103)), some (.inr (.inl x)), none, some (.inr (.inl w)), none, some (.inr (.inl ((jx_fr x w).1))), none, some (.inr (.inl ((jx_fr x w).2))), none, none, none, none, none, none, none] [.inr (.inl ((Int.gcd (σ 103 69) ((jx_fr x w).2) : Int)))] σ _
  refine jw_W_n 2 (i' := 16) (ls' := [some (.inr (.inr 103)), some (.inr (.inl x)), none, some (.inr (.inl w)), none, some (.inr (.inl ((jx_fr x w).1))), none, some (.inr (.inl ((jx_fr x w).2))), none, some (.inr (.inl ((Int.gcd (σ 103 69) ((jx_fr x w).2) : Int)))), none, none, none, none, none]) (st' := [.inr (.inr 103)]) rfl ?_
  refine jw_W_gf rfl rfl rfl ?_
  show jw_W (js_S n) _ md_310 17 [some (.inr (.inr 103)), some (.inr (.inl x)), none, some (.inr (.inl w)), none, some (.inr (.inl ((jx_fr x w).1))), none, some (.inr (.inl ((jx_fr x w).2))), none, some (.inr (.inl ((Int.gcd (σ 103 69) ((jx_fr x w).2) : Int)))), none, none, none, none, none] [.inr (.inl (σ 103 68))] σ _
  refine jw_W_n 2 (i' := 19) (ls' := [some (.inr (.inr 103)), some (.inr (.inl x)), none, some (.inr (.inl w)), none, some (.inr (.inl ((jx_fr x w).1))), none, some (.inr (.inl ((jx_fr x w).2))), none, some (.inr (.inl ((Int.gcd (σ 103 69) ((jx_fr x w).2) : Int)))), none, none, none, none, none]) (st' := [.inr (.inl ((Int.gcd (σ 103 69) ((jx_fr x w).2) : Int))), .inr (.inl ((jx_fr x w).2)), .inr (.inl (σ 103 68))]) rfl ?_
  refine jw_W_ldiv rfl (by unfold jw_rgl; omega) (by omega) ?_
  rw [f1]
  refine jw_W_n 3 (i' := 23) (ls' := [some (.inr (.inr 103)), some (.inr (.inl x)), none, some (.inr (.inl w)), none, some (.inr (.inl ((jx_fr x w).1))), none, some (.inr (.inl ((jx_fr x w).2))), none, some (.inr (.inl ((Int.gcd (σ 103 69) ((jx_fr x w).2) : Int)))), none, none, none, none, none]) (st' := [.inr (.inr 103), .inr (.inl ((jx_fr x w).1)), .inr (.inl ((σ 103 68) * ((jx_fr x w).2 / (Int.gcd (σ 103 69) ((jx_fr x w).2) : Int))))]) rfl ?_
  refine jw_W_gf rfl rfl rfl ?_
  show jw_W (js_S n) _ md_310 24 [some (.inr (.inr 103)), some (.inr (.inl x)), none, some (.inr (.inl w)), none, some (.inr (.inl ((jx_fr x w).1))), none, some (.inr (.inl ((jx_fr x w).2))), none, some (.inr (.inl ((Int.gcd (σ 103 69) ((jx_fr x w).2) : Int)))), none, none, none, none, none] [.inr (.inl (σ 103 69)), .inr (.inl ((jx_fr x w).1)), .inr (.inl ((σ 103 68) * ((jx_fr x w).2 / (Int.gcd (σ 103 69) ((jx_fr x w).2) : Int))))] σ _
  refine jw_W_n 1 (i' := 25) (ls' := [some (.inr (.inr 103)), some (.inr (.inl x)), none, some (.inr (.inl w)), none, some (.inr (.inl ((jx_fr x w).1))), none, some (.inr (.inl ((jx_fr x w).2))), none, some (.inr (.inl ((Int.gcd (σ 103 69) ((jx_fr x w).2) : Int)))), none, none, none, none, none]) (st' := [.inr (.inl ((Int.gcd (σ 103 69) ((jx_fr x w).2) : Int))), .inr (.inl (σ 103 69)), .inr (.inl ((jx_fr x w).1)), .inr (.inl ((σ 103 68) * ((jx_fr x w).2 / (Int.gcd (σ 103 69) ((jx_fr x w).2) : Int))))]) rfl ?_
  refine jw_W_ldiv rfl (by unfold jw_rgl; omega) (by omega) ?_
  rw [f2]
  refine jw_W_n 4 (i' := 30) (ls' := [some (.inr (.inr 103)), some (.inr (.inl x)), none, some (.inr (.inl w)), none, some (.inr (.inl ((jx_fr x w).1))), none, some (.inr (.inl ((jx_fr x w).2))), none, some (.inr (.inl ((Int.gcd (σ 103 69) ((jx_fr x w).2) : Int)))), none, some (.inr (.inl (((σ 103 68) * ((jx_fr x w).2 / (Int.gcd (σ 103 69) ((jx_fr x w).2) : Int))) + (((jx_fr x w).1) * (σ 103 69 / (Int.gcd (σ 103 69) ((jx_fr x w).2) : Int)))))), none, none, none]) (st' := [.inr (.inr 103)]) rfl ?_
  refine jw_W_gf rfl rfl rfl ?_
  show jw_W (js_S n) _ md_310 31 [some (.inr (.inr 103)), some (.inr (.inl x)), none, some (.inr (.inl w)), none, some (.inr (.inl ((jx_fr x w).1))), none, some (.inr (.inl ((jx_fr x w).2))), none, some (.inr (.inl ((Int.gcd (σ 103 69) ((jx_fr x w).2) : Int)))), none, some (.inr (.inl (((σ 103 68) * ((jx_fr x w).2 / (Int.gcd (σ 103 69) ((jx_fr x w).2) : Int))) + (((jx_fr x w).1) * (σ 103 69 / (Int.gcd (σ 103 69) ((jx_fr x w).2) : Int)))))), none, none, none] [.inr (.inl (σ 103 69))] σ _
  refine jw_W_n 1 (i' := 32) (ls' := [some (.inr (.inr 103)), some (.inr (.inl x)), none, some (.inr (.inl w)), none, some (.inr (.inl ((jx_fr x w).1))), none, some (.inr (.inl ((jx_fr x w).2))), none, some (.inr (.inl ((Int.gcd (σ 103 69) ((jx_fr x w).2) : Int)))), none, some (.inr (.inl (((σ 103 68) * ((jx_fr x w).2 / (Int.gcd (σ 103 69) ((jx_fr x w).2) : Int))) + (((jx_fr x w).1) * (σ 103 69 / (Int.gcd (σ 103 69) ((jx_fr x w).2) : Int)))))), none, none, none]) (st' := [.inr (.inl ((Int.gcd (σ 103 69) ((jx_fr x w).2) : Int))), .inr (.inl (σ 103 69))]) rfl ?_
  refine jw_W_ldiv rfl (by unfold jw_rgl; omega) (by omega) ?_
  rw [f2]
  refine jw_W_n 7 (i' := 40) (ls' := [some (.inr (.inr 103)), some (.inr (.inl x)), none, some (.inr (.inl w)), none, some (.inr (.inl ((jx_fr x w).1))), none, some (.inr (.inl ((jx_fr x w).2))), none, some (.inr (.inl ((Int.gcd (σ 103 69) ((jx_fr x w).2) : Int)))), none, some (.inr (.inl (((σ 103 68) * ((jx_fr x w).2 / (Int.gcd (σ 103 69) ((jx_fr x w).2) : Int))) + (((jx_fr x w).1) * (σ 103 69 / (Int.gcd (σ 103 69) ((jx_fr x w).2) : Int)))))), none, some (.inr (.inl ((σ 103 69 / (Int.gcd (σ 103 69) ((jx_fr x w).2) : Int)) * ((jx_fr x w).2)))), none]) (st' := [.inl 0, .inr (.inl ((σ 103 69 / (Int.gcd (σ 103 69) ((jx_fr x w).2) : Int)) * ((jx_fr x w).2))), .inr (.inl (((σ 103 68) * ((jx_fr x w).2 / (Int.gcd (σ 103 69) ((jx_fr x w).2) : Int))) + (((jx_fr x w).1) * (σ 103 69 / (Int.gcd (σ 103 69) ((jx_fr x w).2) : Int))))), .inr (.inr 103)]) rfl ?_
  refine jw_W_call (as := [.inr (.inl (((σ 103 68) * ((jx_fr x w).2 / (Int.gcd (σ 103 69) ((jx_fr x w).2) : Int))) + (((jx_fr x w).1) * (σ 103 69 / (Int.gcd (σ 103 69) ((jx_fr x w).2) : Int))))), .inr (.inl ((σ 103 69 / (Int.gcd (σ 103 69) ((jx_fr x w).2) : Int)) * ((jx_fr x w).2))), .inl 0]) (rest := [.inr (.inr 103)]) rfl rfl rfl rfl (Nat.le_of_ble_eq_true rfl) (.inl rfl) (jm_ofFr hS2 hT0 (by omega) (by unfold jw_rg; omega)) (by omega) ?_ rfl
  rintro r1 σz ⟨rfl, hs⟩
  rw [hs]
  rw [hofS.1]
  show jw_W (js_S n) _ md_310 41 [some (.inr (.inr 103)), some (.inr (.inl x)), none, some (.inr (.inl w)), none, some (.inr (.inl ((jx_fr x w).1))), none, some (.inr (.inl ((jx_fr x w).2))), none, some (.inr (.inl ((Int.gcd (σ 103 69) ((jx_fr x w).2) : Int)))), none, some (.inr (.inl (((σ 103 68) * ((jx_fr x w).2 / (Int.gcd (σ 103 69) ((jx_fr x w).2) : Int))) + (((jx_fr x w).1) * (σ 103 69 / (Int.gcd (σ 103 69) ((jx_fr x w).2) : Int)))))), none, some (.inr (.inl ((σ 103 69 / (Int.gcd (σ 103 69) ((jx_fr x w).2) : Int)) * ((jx_fr x w).2)))), none] [.inr (.inl ((jx_fr (σ 103 68 * ((jx_fr x w).2 / (Int.gcd (σ 103 69) ((jx_fr x w).2) : Int)) + (jx_fr x w).1 * (σ 103 69 / (Int.gcd (σ 103 69) ((jx_fr x w).2) : Int))) (σ 103 69 / (Int.gcd (σ 103 69) ((jx_fr x w).2) : Int) * (jx_fr x w).2)).1)), .inr (.inr 103)] σ _
  refine jw_W_pf (a := (jx_fr (σ 103 68 * ((jx_fr x w).2 / (Int.gcd (σ 103 69) ((jx_fr x w).2) : Int)) + (jx_fr x w).1 * (σ 103 69 / (Int.gcd (σ 103 69) ((jx_fr x w).2) : Int))) (σ 103 69 / (Int.gcd (σ 103 69) ((jx_fr x w).2) : Int) * (jx_fr x w).2)).1) rfl (by omega) rfl rfl rfl rfl rfl ?_
  refine jw_W_n 4 (i' := 46) (ls' := [some (.inr (.inr 103)), some (.inr (.inl x)), none, some (.inr (.inl w)), none, some (.inr (.inl ((jx_fr x w).1))), none, some (.inr (.inl ((jx_fr x w).2))), none, some (.inr (.inl ((Int.gcd (σ 103 69) ((jx_fr x w).2) : Int)))), none, some (.inr (.inl (((σ 103 68) * ((jx_fr x w).2 / (Int.gcd (σ 103 69) ((jx_fr x w).2) : Int))) + (((jx_fr x w).1) * (σ 103 69 / (Int.gcd (σ 103 69) ((jx_fr x w).2) : Int)))))), none, some (.inr (.inl ((σ 103 69 / (Int.gcd (σ 103 69) ((jx_fr x w).2) : Int)) * ((jx_fr x w).2)))), none]) (st' := [.inl 1, .inr (.inl ((σ 103 69 / (Int.gcd (σ 103 69) ((jx_fr x w).2) : Int)) * ((jx_fr x w).2))), .inr (.inl (((σ 103 68) * ((jx_fr x w).2 / (Int.gcd (σ 103 69) ((jx_fr x w).2) : Int))) + (((jx_fr x w).1) * (σ 103 69 / (Int.gcd (σ 103 69) ((jx_fr x w).2) : Int))))), .inr (.inr 103)]) rfl ?_
  refine jw_W_call (as := [.inr (.inl (((σ 103 68) * ((jx_fr x w).2 / (Int.gcd (σ 103 69) ((jx_fr x w).2) : Int))) + (((jx_fr x w).1) * (σ 103 69 / (Int.gcd (σ 103 69) ((jx_fr x w).2) : Int))))), .inr (.inl ((σ 103 69 / (Int.gcd (σ 103 69) ((jx_fr x w).2) : Int)) * ((jx_fr x w).2))), .inl 1]) (rest := [.inr (.inr 103)]) rfl rfl rfl rfl (Nat.le_of_ble_eq_true rfl) (.inl rfl) (jm_ofFr hS2 hT0 (by omega) (by unfold jw_rg; omega)) (by omega) ?_ rfl
  rintro r1 σz ⟨rfl, hs⟩
  rw [hs]
  rw [hofS.2]
  show jw_W (js_S n) _ md_310 47 [some (.inr (.inr 103)), some (.inr (.inl x)), none, some (.inr (.inl w)), none, some (.inr (.inl ((jx_fr x w).1))), none, some (.inr (.inl ((jx_fr x w).2))), none, some (.inr (.inl ((Int.gcd (σ 103 69) ((jx_fr x w).2) : Int)))), none, some (.inr (.inl (((σ 103 68) * ((jx_fr x w).2 / (Int.gcd (σ 103 69) ((jx_fr x w).2) : Int))) + (((jx_fr x w).1) * (σ 103 69 / (Int.gcd (σ 103 69) ((jx_fr x w).2) : Int)))))), none, some (.inr (.inl ((σ 103 69 / (Int.gcd (σ 103 69) ((jx_fr x w).2) : Int)) * ((jx_fr x w).2)))), none] [.inr (.inl ((jx_fr (σ 103 68 * ((jx_fr x w).2 / (Int.gcd (σ 103 69) ((jx_fr x w).2) : Int)) + (jx_fr x w).1 * (σ 103 69 / (Int.gcd (σ 103 69) ((jx_fr x w).2) : Int))) (σ 103 69 / (Int.gcd (σ 103 69) ((jx_fr x w).2) : Int) * (jx_fr x w).2)).2)), .inr (.inr 103)] ((jw_up σ 103 68 ((jx_fr (σ 103 68 * ((jx_fr x w).2 / (Int.gcd (σ 103 69) ((jx_fr x w).2) : Int)) + (jx_fr x w).1 * (σ 103 69 / (Int.gcd (σ 103 69) ((jx_fr x w).2) : Int))) (σ 103 69 / (Int.gcd (σ 103 69) ((jx_fr x w).2) : Int) * (jx_fr x w).2)).1))) _
  refine jw_W_pf (a := (jx_fr (σ 103 68 * ((jx_fr x w).2 / (Int.gcd (σ 103 69) ((jx_fr x w).2) : Int)) + (jx_fr x w).1 * (σ 103 69 / (Int.gcd (σ 103 69) ((jx_fr x w).2) : Int))) (σ 103 69 / (Int.gcd (σ 103 69) ((jx_fr x w).2) : Int) * (jx_fr x w).2)).2) rfl (by omega) rfl rfl rfl rfl rfl ?_
  refine jw_W_re rfl ?_
  refine ⟨rfl, jk_68_up (jk_68_up ⟨fun _ _ => rfl, fun _ _ => rfl⟩ (by omega)) (by omega), ?_⟩
  show ((jx_fr (σ 103 68 * ((jx_fr x w).2 / (Int.gcd (σ 103 69) ((jx_fr x w).2) : Int)) + (jx_fr x w).1 * (σ 103 69 / (Int.gcd (σ 103 69) ((jx_fr x w).2) : Int))) (σ 103 69 / (Int.gcd (σ 103 69) ((jx_fr x w).2) : Int) * (jx_fr x w).2)).1, (jx_fr (σ 103 68 * ((jx_fr x w).2 / (Int.gcd (σ 103 69) ((jx_fr x w).2) : Int)) + (jx_fr x w).1 * (σ 103 69 / (Int.gcd (σ 103 69) ((jx_fr x w).2) : Int))) (σ 103 69 / (Int.gcd (σ 103 69) ((jx_fr x w).2) : Int) * (jx_fr x w).2)).2) = _
  exact hfin
theorem jk_mdm_loop {n : Nat} {σ0 : jw_H} {C : List (ge_R × Int)} (hKN0 : jm_KN σ0 C) {e j : Int} (re : jw_rg e) (j0 : 0 ≤ j) (j1 : j < 2 * σ0 103 3) (hn0 : 0 < σ0 103 56) : ∀ (f : Nat) {σ : jw_H} {m i : Int}, 0 ≤ i → i + f = σ0 103 56 → jk_68 σ0 σ → (σ 103 68, σ 103 69) = jx_fr (jk_mN σ0 e (j / 2) i.toNat) (jn_K3 σ0) → m = jx_cn (jk_mt σ0 e) i.toNat → jw_W (js_S n) 3 md_312 23 [some (.inr (.inr 103)), some (.inl e), some (.inl j), some (.inl m), some (.inl i), none] [] σ (fun r σ' => ∃ v, r = some (.inr (.inl v)) ∧ jk_68 σ0 σ' ∧ (σ0 103 56 ≠ 0 → v = jm_of (jk_mfr σ0 e (j / 2)).1 ((jk_mfr σ0 e (j / 2)).2 * jx_cn (jk_mt σ0 e) (σ0 103 56).toNat) (j % 2)))
  | f, σ, m, i, i0, hk, HZ, H, Hm => by
    have ih : ∀ {σ' : jw_H} {m' : Int}, i < σ0 103 56 → jk_68 σ0 σ' → (σ' 103 68, σ' 103 69) = jx_fr (jk_mN σ0 e (j / 2) (i + 1).toNat) (jn_K3 σ0) → m' = jx_cn (jk_mt σ0 e) (i + 1).toNat → jw_W (js_S n) 3 md_312 23 [some (.inr (.inr 103)), some (.inl e), some (.inl j), some (.inl m'), some (.inl (i + 1)), none] [] σ' (fun r σ' => ∃ v, r = some (.inr (.inl v)) ∧ jk_68 σ0 σ' ∧ (σ0 103 56 ≠ 0 → v = jm_of (jk_mfr σ0 e (j / 2)).1 ((jk_mfr σ0 e (j / 2)).2 * jx_cn (jk_mt σ0 e) (σ0 103 56).toNat) (j % 2))) := by
      intro σ' m' h1 h2 h3 h4
      match f, hk with
      | 0, hk => omega
      | f + 1, hk => exact jk_mdm_loop hKN0 re j0 j1 hn0 f (by omega) (by omega) h2 h3 h4
    have hKN := jm_KN_fz (jk_68_z hKN0 HZ) hKN0
    have hq0 := hKN0.1.1.1
    have hcn0 := ((jm_kw_cbd hKN0.1).2 σ0 (jm_fk_rf σ0)).1
    unfold jw_rg at re
    have hcb := (jm_kw_cbd hKN.1).2 σ (jm_fk_rf σ)
    have hcn := hcb.1
    have hPm := hKN.1.1
    have hqq := hPm.1
    have hww := hPm.2.1
    have hkk := hPm.2.2.1
    have hg57 := hKN.2.2.1.1
    have hg58 := hKN.2.2.2.1.1
    have e56 : σ 103 56 = σ0 103 56 := HZ.2 56 (by omega)
    have e57 : σ 103 57 = σ0 103 57 := HZ.2 57 (by omega)
    have e135 : σ 135 i = σ0 135 i := by rw [HZ.1 135 (by omega)]
    have ecc : jm_cc σ i (j / 2) = jm_cc σ0 i (j / 2) := by
      unfold jm_cc
      rw [HZ.1 132 (by omega), HZ.1 133 (by omega), HZ.1 134 (by omega)]
    have hc : i < σ0 103 56 → _ := fun h => jk_c hKN0 (j / 2) i0 h
    have hKb := jn_K3_bd hKN0.1.1
    have hNb := jk_mN_le hKN0 e (j / 2) (i := i) i0 (by omega)
    have hml := jx_cn_le (jk_mt σ0 e) i.toNat
    have hk1 := (jk_ad hKb hNb (x := 0) (w := 1) (by omega) (by omega) ⟨jn_K3 σ0, (Int.one_mul _).symm⟩).1
    rw [← H] at hk1
    have hb8 : jm_bg (σ 103 68) := hk1.1
    have hb9 : 0 < σ 103 69 ∧ σ 103 69 ≤ 8500000000000000 := hk1.2
    have hb8b := hb8
    unfold jm_bg at hb8b
    refine jw_W_n 2 (i' := 25) (ls' := [some (.inr (.inr 103)), some (.inl e), some (.inl j), some (.inl m), some (.inl i), none]) (st' := [.inr (.inr 103), .inl i]) rfl ?_
    refine jw_W_gf rfl rfl rfl ?_
    show jw_W (js_S n) _ md_312 26 [some (.inr (.inr 103)), some (.inl e), some (.inl j), some (.inl m), some (.inl i), none] [.inl (σ 103 56), .inl i] σ _
    refine jw_W_ic rfl (by unfold jw_rg; omega) (by unfold jw_rg; omega) (fun hc1 => ?_) (fun hc1 => ?_)
    · have hc1 : i ≥ (σ 103 56) := hc1
      have hkl : i = σ0 103 56 := by omega
      have hm1 : 0 < m := by rw [Hm, hkl]; exact jk_mt_pos hKN0 (by omega) e
      have hg0 := Int.gcd_pos_of_ne_zero_right (σ 103 68) (b := m) (by omega)
      have hg1 : (Int.gcd (σ 103 68) m : Int) ≤ m := Int.le_of_dvd hm1 (Int.gcd_dvd_right _ _)
      have f1 := jm_ldiv_ex (x := σ 103 68) hb8 (show 0 < (Int.gcd (σ 103 68) m : Int) by omega) (by omega) (Int.gcd_dvd_left _ _)
      have f2 := jm_ldiv_ex (x := m) (by unfold jm_bg; omega) (show 0 < (Int.gcd (σ 103 68) m : Int) by omega) (by omega) (Int.gcd_dvd_right _ _)
      have hmul : jm_of (jk_mfr σ0 e (j / 2)).1 ((jk_mfr σ0 e (j / 2)).2 * jx_cn (jk_mt σ0 e) (σ0 103 56).toNat) 0 = σ 103 68 / (Int.gcd (σ 103 68) m : Int) ∧ jm_of (jk_mfr σ0 e (j / 2)).1 ((jk_mfr σ0 e (j / 2)).2 * jx_cn (jk_mt σ0 e) (σ0 103 56).toNat) 1 = σ 103 69 * (m / (Int.gcd (σ 103 68) m : Int)) := by
        rw [← hkl, ← Hm]
        have hq : jk_mfr σ0 e (j / 2) = (σ 103 68, σ 103 69) := by unfold jk_mfr; rw [← hkl]; exact H.symm
        rw [hq]
        exact jk_ofm (by have := jk_cop (u := jk_mN σ0 e (j / 2) i.toNat) (l := jn_K3 σ0) hKb.1; rw [← H] at this; exact this)
      refine jw_W_n 1 (i' := 53) (ls' := [some (.inr (.inr 103)), some (.inl e), some (.inl j), some (.inl m), some (.inl i), none]) (st' := [.inr (.inr 103)]) rfl ?_
      refine jw_W_gf rfl rfl rfl ?_
      show jw_W (js_S n) _ md_312 54 [some (.inr (.inr 103)), some (.inl e), some (.inl j), some (.inl m), some (.inl i), none] [.inr (.inl (σ 103 68))] σ _
      refine jw_W_n 1 (i' := 55) (ls' := [some (.inr (.inr 103)), some (.inl e), some (.inl j), some (.inl m), some (.inl i), none]) (st' := [.inl m, .inr (.inl (σ 103 68))]) rfl ?_
      refine jw_W_i2l rfl (by unfold jw_rg; omega) ?_
      refine jw_W_call (as := [.inr (.inl (σ 103 68)), .inr (.inl m)]) (rest := []) rfl rfl rfl rfl (Nat.le_of_ble_eq_true rfl) (.inl rfl) (jm_gcd (by unfold jw_rgl; omega) (by omega) (by unfold jw_rgl; omega) (by omega)) (by omega) ?_ rfl
      rintro r1 σz ⟨rfl, hs⟩
      rw [hs]
      show jw_W (js_S n) _ md_312 57 [some (.inr (.inr 103)), some (.inl e), some (.inl j), some (.inl m), some (.inl i), none] [.inr (.inl ((Int.gcd (σ 103 68) m : Int)))] σ _
      refine jw_W_n 3 (i' := 60) (ls' := [some (.inr (.inr 103)), some (.inl e), some (.inl j), some (.inl m), some (.inr (.inl ((Int.gcd (σ 103 68) m : Int)))), none]) (st' := [.inl 2, .inl j]) rfl ?_
      refine jw_W_irem rfl (by unfold jw_rg; omega) (by omega) ?_
      rw [(jm_half j (by omega) (by omega)).2]
      refine jw_W_if rfl (by unfold jw_rg; omega) (fun hc2 => ?_) (fun hc2 => ?_)
      · have hc2 : (j % 2) ≠ 0 := hc2
        refine jw_W_n 1 (i' := 68) (ls' := [some (.inr (.inr 103)), some (.inl e), some (.inl j), some (.inl m), some (.inr (.inl ((Int.gcd (σ 103 68) m : Int)))), none]) (st' := [.inr (.inr 103)]) rfl ?_
        refine jw_W_gf rfl rfl rfl ?_
        show jw_W (js_S n) _ md_312 69 [some (.inr (.inr 103)), some (.inl e), some (.inl j), some (.inl m), some (.inr (.inl ((Int.gcd (σ 103 68) m : Int)))), none] [.inr (.inl (σ 103 69))] σ _
        refine jw_W_n 1 (i' := 70) (ls' := [some (.inr (.inr 103)), some (.inl e), some (.inl j), some (.inl m), some (.inr (.inl ((Int.gcd (σ 103 68) m : Int)))), none]) (st' := [.inl m, .inr (.inl (σ 103 69))]) rfl ?_
        refine jw_W_i2l rfl (by unfold jw_rg; omega) ?_
        refine jw_W_n 1 (i' := 72) (ls' := [some (.inr (.inr 103)), some (.inl e), some (.inl j), some (.inl m), some (.inr (.inl ((Int.gcd (σ 103 68) m : Int)))), none]) (st' := [.inr (.inl ((Int.gcd (σ 103 68) m : Int))), .inr (.inl m), .inr (.inl (σ 103 69))]) rfl ?_
        refine jw_W_ldiv rfl (by unfold jw_rgl; omega) (by omega) ?_
        rw [f2]
        refine jw_W_n 1 (i' := 74) (ls' := [some (.inr (.inr 103)), some (.inl e), some (.inl j), some (.inl m), some (.inr (.inl ((Int.gcd (σ 103 68) m : Int)))), none]) (st' := [.inr (.inl ((σ 103 69) * (m / (Int.gcd (σ 103 68) m : Int))))]) rfl ?_
        refine jw_W_lr rfl ?_
        refine ⟨_, rfl, HZ, fun _ => ?_⟩
        rw [show j % 2 = 1 by omega, hmul.2]
      · have hc2 : (j % 2) = 0 := Classical.not_not.mp hc2
        refine jw_W_n 1 (i' := 63) (ls' := [some (.inr (.inr 103)), some (.inl e), some (.inl j), some (.inl m), some (.inr (.inl ((Int.gcd (σ 103 68) m : Int)))), none]) (st' := [.inr (.inr 103)]) rfl ?_
        refine jw_W_gf rfl rfl rfl ?_
        show jw_W (js_S n) _ md_312 64 [some (.inr (.inr 103)), some (.inl e), some (.inl j), some (.inl m), some (.inr (.inl ((Int.gcd (σ 103 68) m : Int)))), none] [.inr (.inl (σ 103 68))] σ _
        refine jw_W_n 1 (i' := 65) (ls' := [some (.inr (.inr 103)), some (.inl e), some (.inl j), some (.inl m), some (.inr (.inl ((Int.gcd (σ 103 68) m : Int)))), none]) (st' := [.inr (.inl ((Int.gcd (σ 103 68) m : Int))), .inr (.inl (σ 103 68))]) rfl ?_
        refine jw_W_ldiv rfl (by unfold jw_rgl; omega) (by omega) ?_
        rw [f1]
        refine jw_W_n 1 (i' := 74) (ls' := [some (.inr (.inr 103)), some (.inl e), some (.inl j), some (.inl m), some (.inr (.inl ((Int.gcd (σ 103 68) m : Int)))), none]) (st' := [.inr (.inl (σ 103 68 / (Int.gcd (σ 103 68) m : Int)))]) rfl ?_
        refine jw_W_lr rfl ?_
        refine ⟨_, rfl, HZ, fun _ => ?_⟩
        rw [show j % 2 = 0 by omega, hmul.1]
    · have hc1 : ¬ (i ≥ (σ 103 56)) := hc1
      refine jw_W_n 1 (i' := 28) (ls' := [some (.inr (.inr 103)), some (.inl e), some (.inl j), some (.inl m), some (.inl i), none]) (st' := [.inl e]) rfl ?_
      refine jw_W_if rfl (by unfold jw_rg; omega) (fun hc3 => ?_) (fun hc3 => ?_)
      · have hc3 : e = 0 := hc3
        refine jw_W_n 9 (i' := 43) (ls' := [some (.inr (.inr 103)), some (.inl e), some (.inl j), some (.inl (m + 1)), some (.inl i), none]) (st' := [.inl 2, .inl j, .inl i, .inr (.inr 103), .inr (.inr 103)]) rfl ?_
        refine jw_W_idiv rfl (by unfold jw_rg; omega) (by omega) ?_
        rw [(jm_half j (by omega) (by omega)).1]
        refine jw_W_call (as := [.inr (.inr 103), .inl i, .inl (j / 2)]) (rest := [.inr (.inr 103)]) rfl rfl rfl rfl (Nat.le_of_ble_eq_true rfl) (.inr rfl) (jm_cornerAt hcb i0 (by omega) (by unfold jw_rg; omega)) (by omega) ?_ rfl
        rintro r1 σz ⟨rfl, hs⟩
        rw [hs]
        rw [ecc]
        show jw_W (js_S n) _ md_312 45 [some (.inr (.inr 103)), some (.inl e), some (.inl j), some (.inl (m + 1)), some (.inl i), none] [.inr (.inl (jm_cc σ0 i (j / 2))), .inr (.inr 103)] σ _
        refine jw_W_n 1 (i' := 46) (ls' := [some (.inr (.inr 103)), some (.inl e), some (.inl j), some (.inl (m + 1)), some (.inl i), none]) (st' := [.inr (.inr 103), .inr (.inl (jm_cc σ0 i (j / 2))), .inr (.inr 103)]) rfl ?_
        refine jw_W_gf rfl rfl rfl ?_
        show jw_W (js_S n) _ md_312 47 [some (.inr (.inr 103)), some (.inl e), some (.inl j), some (.inl (m + 1)), some (.inl i), none] [.inr (.inr 135), .inr (.inl (jm_cc σ0 i (j / 2))), .inr (.inr 103)] σ _
        refine jw_W_n 1 (i' := 48) (ls' := [some (.inr (.inr 103)), some (.inl e), some (.inl j), some (.inl (m + 1)), some (.inl i), none]) (st' := [.inl i, .inr (.inr 135), .inr (.inl (jm_cc σ0 i (j / 2))), .inr (.inr 103)]) rfl ?_
        refine jw_W_la rfl rfl (by omega) (by omega) (by omega) ?_
        show jw_W (js_S n) _ md_312 49 [some (.inr (.inr 103)), some (.inl e), some (.inl j), some (.inl (m + 1)), some (.inl i), none] [.inr (.inl (σ 135 i)), .inr (.inl (jm_cc σ0 i (j / 2))), .inr (.inr 103)] σ _
        refine jw_W_call (as := [.inr (.inr 103), .inr (.inl (jm_cc σ0 i (j / 2))), .inr (.inl (σ 135 i))]) (rest := []) rfl rfl rfl rfl (Nat.le_of_ble_eq_true rfl) (.inr rfl) (jk_adds hKb hNb (by rw [e135]; exact (hc (by omega)).2.1) (by rw [e135]; exact (hc (by omega)).1) (by rw [e135]; exact (hc (by omega)).2.2) H) (by omega) ?_ rfl
        rintro r1 σ1 ⟨rfl, hf, hH⟩
        show jw_W (js_S n) _ md_312 50 [some (.inr (.inr 103)), some (.inl e), some (.inl j), some (.inl (m + 1)), some (.inl i), none] [] σ1 _
        refine jw_W_n 2 (i' := 23) (ls' := [some (.inr (.inr 103)), some (.inl e), some (.inl j), some (.inl (m + 1)), some (.inl (i + 1)), none]) (st' := []) rfl ?_
        have hye : jk_mt σ0 e i := by
          unfold jk_mt jm_good
          rw [← e57]
          first | exact .inl (by omega) | exact .inr hg
        exact ih (by omega) (jk_68_tr HZ hf) (by rw [jk_mN_yes i0 hye, ← e135]; exact hH) (jx_cn_yes i0 Hm hye)
      · have hc3 : ¬ (e = 0) := hc3
        refine jw_W_n 1 (i' := 30) (ls' := [some (.inr (.inr 103)), some (.inl e), some (.inl j), some (.inl m), some (.inl i), none]) (st' := [.inr (.inr 103)]) rfl ?_
        refine jw_W_gf rfl rfl rfl ?_
        show jw_W (js_S n) _ md_312 31 [some (.inr (.inr 103)), some (.inl e), some (.inl j), some (.inl m), some (.inl i), none] [.inl (σ 103 57)] σ _
        refine jw_W_n 1 (i' := 32) (ls' := [some (.inr (.inr 103)), some (.inl e), some (.inl j), some (.inl m), some (.inl i), none]) (st' := [.inl i, .inl (σ 103 57)]) rfl ?_
        refine jw_W_call (as := [.inl (σ 103 57), .inl i]) (rest := []) rfl rfl rfl rfl (Nat.le_of_ble_eq_true rfl) (.inl rfl) (jm_has (by omega) (by omega) (by omega) (by omega)) (by omega) ?_ rfl
        rintro r1 σz (⟨rfl, hs, hg⟩ | ⟨rfl, hs, hg⟩)
        · rw [hs]
          have hmt : e ≠ 0 → (jk_mt σ0 e i ↔ jb_in (σ 103 57) i.toNat) := fun he => ⟨fun hh => by rcases hh with hh | hh; exact absurd hh he; unfold jm_good at hh; rw [← e57] at hh; exact hh, fun hh => .inr (by unfold jm_good; rw [← e57]; exact hh)⟩
          show jw_W (js_S n) _ md_312 33 [some (.inr (.inr 103)), some (.inl e), some (.inl j), some (.inl m), some (.inl i), none] [.inl 1] σ _
          refine jw_W_if rfl (by unfold jw_rg; omega) (fun hc4 => ?_) (fun hc4 => ?_)
          · exact absurd hc4 (show ¬ ((1 : Int) = 0) by omega)
          · clear hc4
            refine jw_W_n 9 (i' := 43) (ls' := [some (.inr (.inr 103)), some (.inl e), some (.inl j), some (.inl (m + 1)), some (.inl i), none]) (st' := [.inl 2, .inl j, .inl i, .inr (.inr 103), .inr (.inr 103)]) rfl ?_
            refine jw_W_idiv rfl (by unfold jw_rg; omega) (by omega) ?_
            rw [(jm_half j (by omega) (by omega)).1]
            refine jw_W_call (as := [.inr (.inr 103), .inl i, .inl (j / 2)]) (rest := [.inr (.inr 103)]) rfl rfl rfl rfl (Nat.le_of_ble_eq_true rfl) (.inr rfl) (jm_cornerAt hcb i0 (by omega) (by unfold jw_rg; omega)) (by omega) ?_ rfl
            rintro r1 σz ⟨rfl, hs⟩
            rw [hs]
            rw [ecc]
            show jw_W (js_S n) _ md_312 45 [some (.inr (.inr 103)), some (.inl e), some (.inl j), some (.inl (m + 1)), some (.inl i), none] [.inr (.inl (jm_cc σ0 i (j / 2))), .inr (.inr 103)] σ _
            refine jw_W_n 1 (i' := 46) (ls' := [some (.inr (.inr 103)), some (.inl e), some (.inl j), some (.inl (m + 1)), some (.inl i), none]) (st' := [.inr (.inr 103), .inr (.inl (jm_cc σ0 i (j / 2))), .inr (.inr 103)]) rfl ?_
            refine jw_W_gf rfl rfl rfl ?_
            show jw_W (js_S n) _ md_312 47 [some (.inr (.inr 103)), some (.inl e), some (.inl j), some (.inl (m + 1)), some (.inl i), none] [.inr (.inr 135), .inr (.inl (jm_cc σ0 i (j / 2))), .inr (.inr 103)] σ _
            refine jw_W_n 1 (i' := 48) (ls' := [some (.inr (.inr 103)), some (.inl e), some (.inl j), some (.inl (m + 1)), some (.inl i), none]) (st' := [.inl i, .inr (.inr 135), .inr (.inl (jm_cc σ0 i (j / 2))), .inr (.inr 103)]) rfl ?_
            refine jw_W_la rfl rfl (by omega) (by omega) (by omega) ?_
            show jw_W (js_S n) _ md_312 49 [some (.inr (.inr 103)), some (.inl e), some (.inl j), some (.inl (m + 1)), some (.inl i), none] [.inr (.inl (σ 135 i)), .inr (.inl (jm_cc σ0 i (j / 2))), .inr (.inr 103)] σ _
            refine jw_W_call (as := [.inr (.inr 103), .inr (.inl (jm_cc σ0 i (j / 2))), .inr (.inl (σ 135 i))]) (rest := []) rfl rfl rfl rfl (Nat.le_of_ble_eq_true rfl) (.inr rfl) (jk_adds hKb hNb (by rw [e135]; exact (hc (by omega)).2.1) (by rw [e135]; exact (hc (by omega)).1) (by rw [e135]; exact (hc (by omega)).2.2) H) (by omega) ?_ rfl
            rintro r1 σ1 ⟨rfl, hf, hH⟩
            show jw_W (js_S n) _ md_312 50 [some (.inr (.inr 103)), some (.inl e), some (.inl j), some (.inl (m + 1)), some (.inl i), none] [] σ1 _
            refine jw_W_n 2 (i' := 23) (ls' := [some (.inr (.inr 103)), some (.inl e), some (.inl j), some (.inl (m + 1)), some (.inl (i + 1)), none]) (st' := []) rfl ?_
            have hye : jk_mt σ0 e i := by
              unfold jk_mt jm_good
              rw [← e57]
              first | exact .inl (by omega) | exact .inr hg
            exact ih (by omega) (jk_68_tr HZ hf) (by rw [jk_mN_yes i0 hye, ← e135]; exact hH) (jx_cn_yes i0 Hm hye)
        · rw [hs]
          show jw_W (js_S n) _ md_312 33 [some (.inr (.inr 103)), some (.inl e), some (.inl j), some (.inl m), some (.inl i), none] [.inl 0] σ _
          refine jw_W_if rfl (by unfold jw_rg; omega) (fun hc5 => ?_) (fun hc5 => ?_)
          · clear hc5
            refine jw_W_n 2 (i' := 23) (ls' := [some (.inr (.inr 103)), some (.inl e), some (.inl j), some (.inl m), some (.inl (i + 1)), none]) (st' := []) rfl ?_
            have hno : ¬ jk_mt σ0 e i := fun hh => by
              rcases hh with hh | hh
              · omega
              · unfold jm_good at hh
                rw [← e57] at hh
                exact hg hh
            exact ih (by omega) HZ (by rw [jk_mN_no i0 hno]; exact H) (jx_cn_no i0 Hm hno)
          · exact absurd hc5 (show ¬ ¬ ((0 : Int) = 0) by omega)
theorem jk_begins {n : Nat} {σ : jw_H}  : jw_T (js_S n) 1 311 [.inr (.inr 103)] σ (fun r σ' => r = none ∧ σ' = jw_up (jw_up σ 103 68 0) 103 69 1) := by
  refine jw_T_of (D := 0) (M := mm_311) rfl (Nat.le_of_ble_eq_true rfl) (ls0 := [some (.inr (.inr 103))]) rfl ?_ (by rintro _ _ ⟨rfl, -⟩; rfl)
  refine jw_W_n 2 (i' := 2) (ls' := [some (.inr (.inr 103))]) (st' := [.inr (.inl 0), .inr (.inr 103)]) rfl ?_
  refine jw_W_pf (a := 0) rfl (by omega) rfl rfl rfl rfl rfl ?_
  refine jw_W_n 2 (i' := 5) (ls' := [some (.inr (.inr 103))]) (st' := [.inr (.inl 1), .inr (.inr 103)]) rfl ?_
  refine jw_W_pf (a := 1) rfl (by omega) rfl rfl rfl rfl rfl ?_
  refine jw_W_re rfl ?_
  exact ⟨rfl, rfl⟩
theorem jk_fr0 {K : Int} (h : 0 < K) : jx_fr 0 K = (0, 1) := by
  have e : jx_fr 0 K = jx_fr 0 1 := jx_fr_eq (a := 0) (b := K) (c := 0) (d := 1) h (by decide) (by rw [Int.zero_mul, Int.zero_mul])
  rw [e]
  decide
theorem jm_middle {n : Nat} {σ : jw_H} {C : List (ge_R × Int)} (hKN : jm_KN σ C) {e j : Int} (re : jw_rg e) (hj : jw_rg j) : jw_T (js_S n) 4 312 [.inr (.inr 103), .inl e, .inl j] σ (fun r σ' => ∃ v, r = some (.inr (.inl v)) ∧ jm_fz σ σ' ∧ jk_mda σ e j v) := by
  refine jw_T_of (D := 3) (M := mm_312) rfl (Nat.le_of_ble_eq_true rfl) (ls0 := [some (.inr (.inr 103)), some (.inl e), some (.inl j), none, none, none]) rfl ?_ (by rintro _ _ ⟨_, rfl, -⟩; rfl)
  have hcb := (jm_kw_cbd hKN.1).2 σ (jm_fk_rf σ)
  have hcn := hcb.1
  have hPm := hKN.1.1
  have hqq := hPm.1
  have hww := hPm.2.1
  have hkk := hPm.2.2.1
  have hg57 := hKN.2.2.1.1
  have hg58 := hKN.2.2.2.1.1
  have rhj := hj
  unfold jw_rg at rhj
  refine jw_W_n 4 (i' := 4) (ls' := [some (.inr (.inr 103)), some (.inl e), some (.inl j), none, none, none]) (st' := [.inr (.inr 103), .inl 2, .inl 0, .inl j]) rfl ?_
  refine jw_W_gf rfl rfl rfl ?_
  show jw_W (js_S n) _ md_312 5 [some (.inr (.inr 103)), some (.inl e), some (.inl j), none, none, none] [.inl (σ 103 3), .inl 2, .inl 0, .inl j] σ _
  refine jw_W_n 3 (i' := 8) (ls' := [some (.inr (.inr 103)), some (.inl e), some (.inl j), none, none, none]) (st' := [.inl ((2 * (σ 103 3)) - 1), .inl 0, .inl j]) rfl ?_
  refine jw_W_call (as := [.inl j, .inl 0, .inl ((2 * (σ 103 3)) - 1)]) (rest := []) rfl rfl rfl rfl (Nat.le_of_ble_eq_true rfl) (.inl rfl) (jm_in (by unfold jw_rg; omega) (by unfold jw_rg; omega) (by unfold jw_rg; omega)) (by omega) ?_ rfl
  rintro r1 σz (⟨rfl, hs, q1⟩ | ⟨rfl, hs, q1⟩)
  · rw [hs]
    show jw_W (js_S n) _ md_312 9 [some (.inr (.inr 103)), some (.inl e), some (.inl j), none, none, none] [.inl 1] σ _
    refine jw_W_if rfl (by unfold jw_rg; omega) (fun hc1 => ?_) (fun hc1 => ?_)
    · clear hc1
      refine jw_W_n 1 (i' := 13) (ls' := [some (.inr (.inr 103)), some (.inl e), some (.inl j), none, none, none]) (st' := [.inr (.inr 103)]) rfl ?_
      refine jw_W_gf rfl rfl rfl ?_
      show jw_W (js_S n) _ md_312 14 [some (.inr (.inr 103)), some (.inl e), some (.inl j), none, none, none] [.inl (σ 103 56)] σ _
      refine jw_W_if rfl (by unfold jw_rg; omega) (fun hc2 => ?_) (fun hc2 => ?_)
      · have hc2 : (σ 103 56) ≠ 0 := hc2
        refine jw_W_n 3 (i' := 20) (ls' := [some (.inr (.inr 103)), some (.inl e), some (.inl j), some (.inl 0), none, none]) (st' := [.inr (.inr 103)]) rfl ?_
        refine jw_W_call (as := [.inr (.inr 103)]) (rest := []) rfl rfl rfl rfl (Nat.le_of_ble_eq_true rfl) (.inr rfl) (jk_begins) (by omega) ?_ rfl
        rintro r1 σ1 ⟨rfl, hs⟩
        have hf1 : jk_68 σ σ1 := by rw [hs]; exact jk_68_up (jk_68_up ⟨fun _ _ => rfl, fun _ _ => rfl⟩ (by omega)) (by omega)
        have hH1 : (σ1 103 68, σ1 103 69) = jx_fr (jk_mN σ e (j / 2) (0 : Int).toNat) (jn_K3 σ) := by rw [hs]; exact (jk_fr0 (jn_K3_bd hPm).1).symm
        show jw_W (js_S n) _ md_312 21 [some (.inr (.inr 103)), some (.inl e), some (.inl j), some (.inl 0), none, none] [] σ1 _
        refine jw_W_n 2 (i' := 23) (ls' := [some (.inr (.inr 103)), some (.inl e), some (.inl j), some (.inl 0), some (.inl 0), none]) (st' := []) rfl ?_
        refine jw_W_mono (jk_mdm_loop hKN re (by omega) (by omega) (by omega) (σ 103 56).toNat (m := 0) (i := 0) (by omega) (by omega) hf1 hH1 rfl) ?_
        rintro r σ' ⟨v, rfl, hf, hv⟩
        exact ⟨_, rfl, jk_68_z hKN hf, .inr ⟨by omega, .inr ⟨by omega, hv (by omega)⟩⟩⟩
      · have hc2 : (σ 103 56) = 0 := Classical.not_not.mp hc2
        refine jw_W_ld2 (z := (-2)) rfl rfl ?_
        refine jw_W_lr rfl ?_
        exact ⟨_, rfl, jm_fz_rf hKN, .inr ⟨by omega, .inl ⟨rfl, by omega⟩⟩⟩
    · exact absurd hc1 (show ¬ ¬ ((1 : Int) ≠ 0) by omega)
  · rw [hs]
    show jw_W (js_S n) _ md_312 9 [some (.inr (.inr 103)), some (.inl e), some (.inl j), none, none, none] [.inl 0] σ _
    refine jw_W_if rfl (by unfold jw_rg; omega) (fun hc3 => ?_) (fun hc3 => ?_)
    · exact absurd hc3 (show ¬ ((0 : Int) ≠ 0) by omega)
    · clear hc3
      refine jw_W_ld2 (z := (-1)) rfl rfl ?_
      refine jw_W_lr rfl ?_
      exact ⟨_, rfl, jm_fz_rf hKN, .inl ⟨rfl, by omega⟩⟩
theorem jk_mdx_loop {n : Nat} {σ0 : jw_H} {o : Nat} {C : List (ge_R × Int)} (hJ0 : jx_KJ n o C σ0) {e j : Int} (re : jw_rg e) (j0 : 0 ≤ j) (j1 : j < 2 * σ0 103 3) : ∀ (f : Nat) {σ : jw_H} {m i : Int}, 0 ≤ i → i + f = σ0 103 56 → jx_f89 σ0 σ → (σ 98 0, σ 98 1) = jx_fr (jk_mN σ0 e (j / 2) i.toNat) (jn_K3 σ0) → m = jx_cn (jk_mt σ0 e) i.toNat → jw_W (js_S n) 7 md_144 18 [some (.inr (.inr 13)), some (.inl e), some (.inl j), some (.inl m), some (.inl i)] [] σ (fun r σ' => ∃ v, r = some (.inr (.inl v)) ∧ jx_fy σ0 σ' ∧ ((v = -2 ∧ σ0 103 56 = 0) ∨ (σ0 103 56 ≠ 0 ∧ v = jm_of (jk_mfr σ0 e (j / 2)).1 ((jk_mfr σ0 e (j / 2)).2 * jx_cn (jk_mt σ0 e) (σ0 103 56).toNat) (j % 2))))
  | f, σ, m, i, i0, hk, HZ, H, Hm => by
    have ih : ∀ {σ' : jw_H} {m' : Int}, i < σ0 103 56 → jx_f89 σ0 σ' → (σ' 98 0, σ' 98 1) = jx_fr (jk_mN σ0 e (j / 2) (i + 1).toNat) (jn_K3 σ0) → m' = jx_cn (jk_mt σ0 e) (i + 1).toNat → jw_W (js_S n) 7 md_144 18 [some (.inr (.inr 13)), some (.inl e), some (.inl j), some (.inl m'), some (.inl (i + 1))] [] σ' (fun r σ' => ∃ v, r = some (.inr (.inl v)) ∧ jx_fy σ0 σ' ∧ ((v = -2 ∧ σ0 103 56 = 0) ∨ (σ0 103 56 ≠ 0 ∧ v = jm_of (jk_mfr σ0 e (j / 2)).1 ((jk_mfr σ0 e (j / 2)).2 * jx_cn (jk_mt σ0 e) (σ0 103 56).toNat) (j % 2)))) := by
      intro σ' m' h1 h2 h3 h4
      match f, hk with
      | 0, hk => omega
      | f + 1, hk => exact jk_mdx_loop hJ0 re j0 j1 f (by omega) (by omega) h2 h3 h4
    have hfy := jx_f89_y HZ
    have hJ := jk_KJ_y hfy hJ0
    have hKN0 := hJ0.2.1
    have hme := jx_fx_me (jx_fy_x hfy)
    have hq0 := hKN0.1.1.1
    have hcn0 := ((jm_kw_cbd hKN0.1).2 σ0 (jm_fk_rf σ0)).1
    unfold jw_rg at re
    have hI := hJ.1
    have hKN := hJ.2.1
    have hjd := hJ.2.2.2
    obtain ⟨hto, hfo, hp, hP, e0, e1, e2, hPm, hcb, c0, p0, -⟩ := jx_I0_x hI
    have ho := hp.1
    have hq := hP.1
    have hw := hP.2.1
    have hq2 := hP.2.2.1
    have hcn := hcb.1
    have e103 : σ 103 = σ0 103 := hme 103 (by omega)
    have e56 : σ 103 56 = σ0 103 56 := by rw [e103]
    have e62 : i < σ0 103 56 → σ 62 i = σ0 135 i := fun h => by
      rw [← hme 135 (by omega)]
      exact congrArg (fun v : ge_R => v.2.2.2) (jx_I0_c hI i0 (by omega)).1
    have hat : i < σ0 103 56 → jm_co (jx_pt σ 58 i) (j / 2) = jm_cc σ0 i (j / 2) := fun h => by
      rw [(jx_I0_c hI i0 (by omega)).1, jx_me_ct hme]
      rfl
    have hKb := jn_K3_bd hKN0.1.1
    have hNb := jk_mN_le hKN0 e (j / 2) (i := i) i0 (by omega)
    have hml := jx_cn_le (jk_mt σ0 e) i.toNat
    have hk1 := (jk_ad hKb hNb (x := 0) (w := 1) (by omega) (by omega) ⟨jn_K3 σ0, (Int.one_mul _).symm⟩).1
    have h980 : σ 98 0 = (jx_fr (jk_mN σ0 e (j / 2) i.toNat) (jn_K3 σ0)).1 := congrArg Prod.fst H
    have h981 : σ 98 1 = (jx_fr (jk_mN σ0 e (j / 2) i.toNat) (jn_K3 σ0)).2 := congrArg Prod.snd H
    have hk2 := hk1
    rw [← h980, ← h981] at hk2
    have hb8 : jm_bg (σ 98 0) := hk2.1
    have hb9 : 0 < σ 98 1 ∧ σ 98 1 ≤ 8500000000000000 := hk2.2
    unfold jm_bg at hb8
    refine jw_W_n 2 (i' := 20) (ls' := [some (.inr (.inr 13)), some (.inl e), some (.inl j), some (.inl m), some (.inl i)]) (st' := [.inr (.inr 13), .inl i]) rfl ?_
    refine jw_W_gf rfl rfl rfl ?_
    show jw_W (js_S n) _ md_144 21 [some (.inr (.inr 13)), some (.inl e), some (.inl j), some (.inl m), some (.inl i)] [.inr (.inr 57), .inl i] σ _
    refine jw_W_gf rfl rfl rfl ?_
    show jw_W (js_S n) _ md_144 22 [some (.inr (.inr 13)), some (.inl e), some (.inl j), some (.inl m), some (.inl i)] [.inl (σ 57 0), .inl i] σ _
    refine jw_W_ic rfl (by unfold jw_rg; omega) (by unfold jw_rg; omega) (fun hc1 => ?_) (fun hc1 => ?_)
    · have hc1 : i ≥ (σ 57 0) := hc1
      have hb98m : m ≠ 0 → 0 < σ 98 1 * m ∧ σ 98 1 * m ≤ 9200000000000000000 := fun hm => by
        have h1 := Int.mul_pos hb9.1 (show 0 < m by omega)
        have h2 := jn_mb (a := σ 98 1) (b := m) (A := 8500000000000000) (B := 20) (by omega) (by omega)
        omega
      refine jw_W_n 1 (i' := 53) (ls' := [some (.inr (.inr 13)), some (.inl e), some (.inl j), some (.inl m), some (.inl i)]) (st' := [.inl m]) rfl ?_
      refine jw_W_if rfl (by unfold jw_rg; omega) (fun hc2 => ?_) (fun hc2 => ?_)
      · have hc2 : m ≠ 0 := hc2
        refine jw_W_n 2 (i' := 58) (ls' := [some (.inr (.inr 13)), some (.inl e), some (.inl j), some (.inl m), some (.inl i)]) (st' := [.inr (.inr 13), .inr (.inr 13)]) rfl ?_
        refine jw_W_gf rfl rfl rfl ?_
        show jw_W (js_S n) _ md_144 59 [some (.inr (.inr 13)), some (.inl e), some (.inl j), some (.inl m), some (.inl i)] [.inr (.inr 98), .inr (.inr 13)] σ _
        refine jw_W_gf rfl rfl rfl ?_
        show jw_W (js_S n) _ md_144 60 [some (.inr (.inr 13)), some (.inl e), some (.inl j), some (.inl m), some (.inl i)] [.inr (.inl (σ 98 0)), .inr (.inr 13)] σ _
        refine jw_W_n 1 (i' := 61) (ls' := [some (.inr (.inr 13)), some (.inl e), some (.inl j), some (.inl m), some (.inl i)]) (st' := [.inr (.inr 13), .inr (.inl (σ 98 0)), .inr (.inr 13)]) rfl ?_
        refine jw_W_gf rfl rfl rfl ?_
        show jw_W (js_S n) _ md_144 62 [some (.inr (.inr 13)), some (.inl e), some (.inl j), some (.inl m), some (.inl i)] [.inr (.inr 98), .inr (.inl (σ 98 0)), .inr (.inr 13)] σ _
        refine jw_W_gf rfl rfl rfl ?_
        show jw_W (js_S n) _ md_144 63 [some (.inr (.inr 13)), some (.inl e), some (.inl j), some (.inl m), some (.inl i)] [.inr (.inl (σ 98 1)), .inr (.inl (σ 98 0)), .inr (.inr 13)] σ _
        refine jw_W_n 1 (i' := 64) (ls' := [some (.inr (.inr 13)), some (.inl e), some (.inl j), some (.inl m), some (.inl i)]) (st' := [.inl m, .inr (.inl (σ 98 1)), .inr (.inl (σ 98 0)), .inr (.inr 13)]) rfl ?_
        refine jw_W_i2l rfl (by unfold jw_rg; omega) ?_
        refine jw_W_n 3 (i' := 68) (ls' := [some (.inr (.inr 13)), some (.inl e), some (.inl j), some (.inl m), some (.inl i)]) (st' := [.inl 2, .inl j, .inr (.inl ((σ 98 1) * m)), .inr (.inl (σ 98 0)), .inr (.inr 13)]) rfl ?_
        refine jw_W_irem rfl (by unfold jw_rg; omega) (by omega) ?_
        rw [(jm_half j (by omega) (by omega)).2]
        have hbm := hb98m (by omega)
        refine jw_W_call (as := [.inr (.inr 13), .inr (.inl (σ 98 0)), .inr (.inl ((σ 98 1) * m)), .inl (j % 2)]) (rest := []) rfl rfl rfl rfl (Nat.le_of_ble_eq_true rfl) (.inr rfl) (jx_partK (by unfold jm_bg; omega) (by omega) (by unfold jw_rg; omega)) (by omega) ?_ rfl
        rintro r1 σz ⟨rfl, hs⟩
        rw [hs]
        show jw_W (js_S n) _ md_144 70 [some (.inr (.inr 13)), some (.inl e), some (.inl j), some (.inl m), some (.inl i)] [.inr (.inl (jm_of (σ 98 0) (σ 98 1 * m) (j % 2)))] ((jx_fs σ 98 (jx_fr (σ 98 0) (σ 98 1 * m)))) _
        refine jw_W_lr rfl ?_
        have hkl : i = σ0 103 56 := by omega
        refine ⟨_, rfl, jx_fy_fs hfy (by omega), .inr ⟨by omega, ?_⟩⟩
        have hq : jk_mfr σ0 e (j / 2) = (σ 98 0, σ 98 1) := by unfold jk_mfr; rw [← hkl]; exact H.symm
        rw [hq, ← hkl, ← Hm]
      · have hc2 : m = 0 := Classical.not_not.mp hc2
        refine jw_W_ld2 (z := (-2)) rfl rfl ?_
        refine jw_W_n 1 (i' := 70) (ls' := [some (.inr (.inr 13)), some (.inl e), some (.inl j), some (.inl m), some (.inl i)]) (st' := [.inr (.inl ((-2)))]) rfl ?_
        refine jw_W_lr rfl ?_
        have hkl : i = σ0 103 56 := by omega
        have hz : σ0 103 56 = 0 := by
          by_cases hh : 0 < σ0 103 56
          · have hp0 := jk_mt_pos hKN0 hh e
            rw [← hkl, ← Hm] at hp0
            omega
          · omega
        exact ⟨_, rfl, hfy, .inl ⟨rfl, hz⟩⟩
    · have hc1 : ¬ (i ≥ (σ 57 0)) := hc1
      refine jw_W_n 1 (i' := 24) (ls' := [some (.inr (.inr 13)), some (.inl e), some (.inl j), some (.inl m), some (.inl i)]) (st' := [.inl e]) rfl ?_
      refine jw_W_if rfl (by unfold jw_rg; omega) (fun hc3 => ?_) (fun hc3 => ?_)
      · have hc3 : e = 0 := hc3
        refine jw_W_n 1 (i' := 31) (ls' := [some (.inr (.inr 13)), some (.inl e), some (.inl j), some (.inl m), some (.inl i)]) (st' := [.inr (.inr 13)]) rfl ?_
        refine jw_W_gf rfl rfl rfl ?_
        show jw_W (js_S n) _ md_144 32 [some (.inr (.inr 13)), some (.inl e), some (.inl j), some (.inl m), some (.inl i)] [.inr (.inr 98)] σ _
        refine jw_W_n 1 (i' := 33) (ls' := [some (.inr (.inr 13)), some (.inl e), some (.inl j), some (.inl m), some (.inl i)]) (st' := [.inr (.inr 13), .inr (.inr 98)]) rfl ?_
        refine jw_W_gf rfl rfl rfl ?_
        show jw_W (js_S n) _ md_144 34 [some (.inr (.inr 13)), some (.inl e), some (.inl j), some (.inl m), some (.inl i)] [.inr (.inr 57), .inr (.inr 98)] σ _
        refine jw_W_gf rfl rfl rfl ?_
        show jw_W (js_S n) _ md_144 35 [some (.inr (.inr 13)), some (.inl e), some (.inl j), some (.inl m), some (.inl i)] [.inr (.inr 58), .inr (.inr 98)] σ _
        refine jw_W_n 3 (i' := 38) (ls' := [some (.inr (.inr 13)), some (.inl e), some (.inl j), some (.inl m), some (.inl i)]) (st' := [.inl 2, .inl j, .inl i, .inr (.inr 58), .inr (.inr 98)]) rfl ?_
        refine jw_W_idiv rfl (by unfold jw_rg; omega) (by omega) ?_
        rw [(jm_half j (by omega) (by omega)).1]
        refine jw_W_call (as := [.inr (.inr 58), .inl i, .inl (j / 2)]) (rest := [.inr (.inr 98)]) rfl rfl rfl rfl (Nat.le_of_ble_eq_true rfl) (.inr rfl) (jx_at (jx_pp_58 n) i0 (by omega) (by unfold jw_rg; omega)) (by omega) ?_ rfl
        rintro r1 σz ⟨rfl, hs⟩
        rw [hs]
        rw [hat (by omega)]
        have hc := jk_c hKN0 (j / 2) i0 (show i < σ0 103 56 by omega)
        have he62 := e62 (by omega)
        have had := jk_ad hKb hNb hc.2.1.1 hc.1 hc.2.2
        show jw_W (js_S n) _ md_144 40 [some (.inr (.inr 13)), some (.inl e), some (.inl j), some (.inl m), some (.inl i)] [.inl (jm_cc σ0 i (j / 2)), .inr (.inr 98)] σ _
        refine jw_W_i2l rfl (by unfold jw_rg; omega) ?_
        refine jw_W_n 1 (i' := 42) (ls' := [some (.inr (.inr 13)), some (.inl e), some (.inl j), some (.inl m), some (.inl i)]) (st' := [.inr (.inr 13), .inr (.inl (jm_cc σ0 i (j / 2))), .inr (.inr 98)]) rfl ?_
        refine jw_W_gf rfl rfl rfl ?_
        show jw_W (js_S n) _ md_144 43 [some (.inr (.inr 13)), some (.inl e), some (.inl j), some (.inl m), some (.inl i)] [.inr (.inr 57), .inr (.inl (jm_cc σ0 i (j / 2))), .inr (.inr 98)] σ _
        refine jw_W_gf rfl rfl rfl ?_
        show jw_W (js_S n) _ md_144 44 [some (.inr (.inr 13)), some (.inl e), some (.inl j), some (.inl m), some (.inl i)] [.inr (.inr 58), .inr (.inl (jm_cc σ0 i (j / 2))), .inr (.inr 98)] σ _
        refine jw_W_gf rfl rfl rfl ?_
        show jw_W (js_S n) _ md_144 45 [some (.inr (.inr 13)), some (.inl e), some (.inl j), some (.inl m), some (.inl i)] [.inr (.inr 62), .inr (.inl (jm_cc σ0 i (j / 2))), .inr (.inr 98)] σ _
        refine jw_W_n 1 (i' := 46) (ls' := [some (.inr (.inr 13)), some (.inl e), some (.inl j), some (.inl m), some (.inl i)]) (st' := [.inl i, .inr (.inr 62), .inr (.inl (jm_cc σ0 i (j / 2))), .inr (.inr 98)]) rfl ?_
        refine jw_W_ia rfl rfl (by omega) (by omega) (by omega) ?_
        show jw_W (js_S n) _ md_144 47 [some (.inr (.inr 13)), some (.inl e), some (.inl j), some (.inl m), some (.inl i)] [.inl (σ 62 i), .inr (.inl (jm_cc σ0 i (j / 2))), .inr (.inr 98)] σ _
        refine jw_W_i2l rfl (by unfold jw_rg; omega) ?_
        refine jw_W_call (as := [.inr (.inr 98), .inr (.inl (jm_cc σ0 i (j / 2))), .inr (.inl (σ 62 i))]) (rest := []) rfl rfl rfl rfl (Nat.le_of_ble_eq_true rfl) (.inr rfl) (jx_add (jx_fo_98 n) (by rw [h981]; unfold jm_bg; omega) (by rw [he62]; unfold jm_bg; omega) (by rw [he62]; omega) (by rw [h980, h981, he62]; exact had.2.1.1) (by rw [h981, he62]; have := had.2.1.2; unfold jm_bg; omega) (by rw [h981, he62]; have := had.2.1.2; omega)) (by omega) ?_ rfl
        rintro r1 σ1 ⟨rfl, hs⟩
        have hZ1 : jx_f89 σ0 σ1 := by rw [hs]; exact fun c h1 h2 h3 => (jx_fs_o σ _ h2).trans (HZ c h1 h2 h3)
        have hH1 : (σ1 98 0, σ1 98 1) = jx_fr (jk_mN σ0 e (j / 2) i.toNat + jm_cc σ0 i (j / 2) * (jn_K3 σ0 / σ0 135 i)) (jn_K3 σ0) := by rw [← had.2.2, ← H, ← he62, hs]; rfl
        show jw_W (js_S n) _ md_144 49 [some (.inr (.inr 13)), some (.inl e), some (.inl j), some (.inl m), some (.inl i)] [] σ1 _
        refine jw_W_n 3 (i' := 18) (ls' := [some (.inr (.inr 13)), some (.inl e), some (.inl j), some (.inl (m + 1)), some (.inl (i + 1))]) (st' := []) rfl ?_
        have hye : jk_mt σ0 e i := by
          unfold jk_mt jm_good
          rw [← e103]
          first | exact .inl (by omega) | exact .inr hg
        exact ih (by omega) hZ1 (by rw [jk_mN_yes i0 hye]; exact hH1) (jx_cn_yes i0 Hm hye)
      · have hc3 : ¬ (e = 0) := hc3
        refine jw_W_n 1 (i' := 26) (ls' := [some (.inr (.inr 13)), some (.inl e), some (.inl j), some (.inl m), some (.inl i)]) (st' := [.inr (.inr 13)]) rfl ?_
        refine jw_W_gf rfl rfl rfl ?_
        show jw_W (js_S n) _ md_144 27 [some (.inr (.inr 13)), some (.inl e), some (.inl j), some (.inl m), some (.inl i)] [.inr (.inr 57)] σ _
        refine jw_W_n 1 (i' := 28) (ls' := [some (.inr (.inr 13)), some (.inl e), some (.inl j), some (.inl m), some (.inl i)]) (st' := [.inl i, .inr (.inr 57)]) rfl ?_
        refine jw_W_call (as := [.inr (.inr 57), .inl i]) (rest := []) rfl rfl rfl rfl (Nat.le_of_ble_eq_true rfl) (.inr rfl) (jx_isEfficient hJ i0 (by omega)) (by omega) ?_ rfl
        rintro r1 σz (⟨rfl, hs, hg⟩ | ⟨rfl, hs, hg⟩)
        · rw [hs]
          show jw_W (js_S n) _ md_144 29 [some (.inr (.inr 13)), some (.inl e), some (.inl j), some (.inl m), some (.inl i)] [.inl 1] σ _
          refine jw_W_if rfl (by unfold jw_rg; omega) (fun hc4 => ?_) (fun hc4 => ?_)
          · exact absurd hc4 (show ¬ ((1 : Int) = 0) by omega)
          · clear hc4
            refine jw_W_n 1 (i' := 31) (ls' := [some (.inr (.inr 13)), some (.inl e), some (.inl j), some (.inl m), some (.inl i)]) (st' := [.inr (.inr 13)]) rfl ?_
            refine jw_W_gf rfl rfl rfl ?_
            show jw_W (js_S n) _ md_144 32 [some (.inr (.inr 13)), some (.inl e), some (.inl j), some (.inl m), some (.inl i)] [.inr (.inr 98)] σ _
            refine jw_W_n 1 (i' := 33) (ls' := [some (.inr (.inr 13)), some (.inl e), some (.inl j), some (.inl m), some (.inl i)]) (st' := [.inr (.inr 13), .inr (.inr 98)]) rfl ?_
            refine jw_W_gf rfl rfl rfl ?_
            show jw_W (js_S n) _ md_144 34 [some (.inr (.inr 13)), some (.inl e), some (.inl j), some (.inl m), some (.inl i)] [.inr (.inr 57), .inr (.inr 98)] σ _
            refine jw_W_gf rfl rfl rfl ?_
            show jw_W (js_S n) _ md_144 35 [some (.inr (.inr 13)), some (.inl e), some (.inl j), some (.inl m), some (.inl i)] [.inr (.inr 58), .inr (.inr 98)] σ _
            refine jw_W_n 3 (i' := 38) (ls' := [some (.inr (.inr 13)), some (.inl e), some (.inl j), some (.inl m), some (.inl i)]) (st' := [.inl 2, .inl j, .inl i, .inr (.inr 58), .inr (.inr 98)]) rfl ?_
            refine jw_W_idiv rfl (by unfold jw_rg; omega) (by omega) ?_
            rw [(jm_half j (by omega) (by omega)).1]
            refine jw_W_call (as := [.inr (.inr 58), .inl i, .inl (j / 2)]) (rest := [.inr (.inr 98)]) rfl rfl rfl rfl (Nat.le_of_ble_eq_true rfl) (.inr rfl) (jx_at (jx_pp_58 n) i0 (by omega) (by unfold jw_rg; omega)) (by omega) ?_ rfl
            rintro r1 σz ⟨rfl, hs⟩
            rw [hs]
            rw [hat (by omega)]
            have hc := jk_c hKN0 (j / 2) i0 (show i < σ0 103 56 by omega)
            have he62 := e62 (by omega)
            have had := jk_ad hKb hNb hc.2.1.1 hc.1 hc.2.2
            show jw_W (js_S n) _ md_144 40 [some (.inr (.inr 13)), some (.inl e), some (.inl j), some (.inl m), some (.inl i)] [.inl (jm_cc σ0 i (j / 2)), .inr (.inr 98)] σ _
            refine jw_W_i2l rfl (by unfold jw_rg; omega) ?_
            refine jw_W_n 1 (i' := 42) (ls' := [some (.inr (.inr 13)), some (.inl e), some (.inl j), some (.inl m), some (.inl i)]) (st' := [.inr (.inr 13), .inr (.inl (jm_cc σ0 i (j / 2))), .inr (.inr 98)]) rfl ?_
            refine jw_W_gf rfl rfl rfl ?_
            show jw_W (js_S n) _ md_144 43 [some (.inr (.inr 13)), some (.inl e), some (.inl j), some (.inl m), some (.inl i)] [.inr (.inr 57), .inr (.inl (jm_cc σ0 i (j / 2))), .inr (.inr 98)] σ _
            refine jw_W_gf rfl rfl rfl ?_
            show jw_W (js_S n) _ md_144 44 [some (.inr (.inr 13)), some (.inl e), some (.inl j), some (.inl m), some (.inl i)] [.inr (.inr 58), .inr (.inl (jm_cc σ0 i (j / 2))), .inr (.inr 98)] σ _
            refine jw_W_gf rfl rfl rfl ?_
            show jw_W (js_S n) _ md_144 45 [some (.inr (.inr 13)), some (.inl e), some (.inl j), some (.inl m), some (.inl i)] [.inr (.inr 62), .inr (.inl (jm_cc σ0 i (j / 2))), .inr (.inr 98)] σ _
            refine jw_W_n 1 (i' := 46) (ls' := [some (.inr (.inr 13)), some (.inl e), some (.inl j), some (.inl m), some (.inl i)]) (st' := [.inl i, .inr (.inr 62), .inr (.inl (jm_cc σ0 i (j / 2))), .inr (.inr 98)]) rfl ?_
            refine jw_W_ia rfl rfl (by omega) (by omega) (by omega) ?_
            show jw_W (js_S n) _ md_144 47 [some (.inr (.inr 13)), some (.inl e), some (.inl j), some (.inl m), some (.inl i)] [.inl (σ 62 i), .inr (.inl (jm_cc σ0 i (j / 2))), .inr (.inr 98)] σ _
            refine jw_W_i2l rfl (by unfold jw_rg; omega) ?_
            refine jw_W_call (as := [.inr (.inr 98), .inr (.inl (jm_cc σ0 i (j / 2))), .inr (.inl (σ 62 i))]) (rest := []) rfl rfl rfl rfl (Nat.le_of_ble_eq_true rfl) (.inr rfl) (jx_add (jx_fo_98 n) (by rw [h981]; unfold jm_bg; omega) (by rw [he62]; unfold jm_bg; omega) (by rw [he62]; omega) (by rw [h980, h981, he62]; exact had.2.1.1) (by rw [h981, he62]; have := had.2.1.2; unfold jm_bg; omega) (by rw [h981, he62]; have := had.2.1.2; omega)) (by omega) ?_ rfl
            rintro r1 σ1 ⟨rfl, hs⟩
            have hZ1 : jx_f89 σ0 σ1 := by rw [hs]; exact fun c h1 h2 h3 => (jx_fs_o σ _ h2).trans (HZ c h1 h2 h3)
            have hH1 : (σ1 98 0, σ1 98 1) = jx_fr (jk_mN σ0 e (j / 2) i.toNat + jm_cc σ0 i (j / 2) * (jn_K3 σ0 / σ0 135 i)) (jn_K3 σ0) := by rw [← had.2.2, ← H, ← he62, hs]; rfl
            show jw_W (js_S n) _ md_144 49 [some (.inr (.inr 13)), some (.inl e), some (.inl j), some (.inl m), some (.inl i)] [] σ1 _
            refine jw_W_n 3 (i' := 18) (ls' := [some (.inr (.inr 13)), some (.inl e), some (.inl j), some (.inl (m + 1)), some (.inl (i + 1))]) (st' := []) rfl ?_
            have hye : jk_mt σ0 e i := by
              unfold jk_mt jm_good
              rw [← e103]
              first | exact .inl (by omega) | exact .inr hg
            exact ih (by omega) hZ1 (by rw [jk_mN_yes i0 hye]; exact hH1) (jx_cn_yes i0 Hm hye)
        · rw [hs]
          show jw_W (js_S n) _ md_144 29 [some (.inr (.inr 13)), some (.inl e), some (.inl j), some (.inl m), some (.inl i)] [.inl 0] σ _
          refine jw_W_if rfl (by unfold jw_rg; omega) (fun hc5 => ?_) (fun hc5 => ?_)
          · clear hc5
            refine jw_W_n 2 (i' := 18) (ls' := [some (.inr (.inr 13)), some (.inl e), some (.inl j), some (.inl m), some (.inl (i + 1))]) (st' := []) rfl ?_
            have hno : ¬ jk_mt σ0 e i := fun hh => by
              rcases hh with hh | hh
              · omega
              · unfold jm_good at hh
                rw [← e103] at hh
                exact hg hh
            exact ih (by omega) HZ (by rw [jk_mN_no i0 hno]; exact H) (jx_cn_no i0 Hm hno)
          · exact absurd hc5 (show ¬ ¬ ((0 : Int) = 0) by omega)
theorem jx_middle {n : Nat} {σ : jw_H} {o : Nat} {C : List (ge_R × Int)} (hK : jx_K n o C σ) {e j : Int} (re : jw_rg e) (hj : jw_rg j) : jw_T (js_S n) 8 144 [.inr (.inr 13), .inl e, .inl j] σ (fun r σ' => ∃ v, r = some (.inr (.inl v)) ∧ jx_fx σ σ' ∧ jx_jj σ' ∧ jk_mda σ e j v) := by
  refine jw_T_of (D := 7) (M := mm_144) rfl (Nat.le_of_ble_eq_true rfl) (ls0 := [some (.inr (.inr 13)), some (.inl e), some (.inl j), none, none]) rfl ?_ (by rintro _ _ ⟨_, rfl, -⟩; rfl)
  have hI := hK.1
  obtain ⟨hto, hfo, hp, hP, e0, e1, e2, hPm, hcb, c0, p0, -⟩ := jx_I0_x hI
  have ho := hp.1
  have hq := hP.1
  have hw := hP.2.1
  have hq2 := hP.2.2.1
  have hcn := hcb.1
  have rhj := hj
  unfold jw_rg at rhj
  refine jw_W_n 2 (i' := 2) (ls' := [some (.inr (.inr 13)), some (.inl e), some (.inl j), none, none]) (st' := [.inl j, .inr (.inr 13)]) rfl ?_
  refine jw_W_call (as := [.inr (.inr 13), .inl j]) (rest := []) rfl rfl rfl rfl (Nat.le_of_ble_eq_true rfl) (.inr rfl) (jx_isPartOfPlan hK hj) (by omega) ?_ rfl
  rintro r1 σz (⟨rfl, hs, q2⟩ | ⟨rfl, hs, q2⟩)
  · rw [hs]
    show jw_W (js_S n) _ md_144 3 [some (.inr (.inr 13)), some (.inl e), some (.inl j), none, none] [.inl 1] σ _
    refine jw_W_if rfl (by unfold jw_rg; omega) (fun hc1 => ?_) (fun hc1 => ?_)
    · clear hc1
      refine jw_W_n 1 (i' := 7) (ls' := [some (.inr (.inr 13)), some (.inl e), some (.inl j), none, none]) (st' := [.inr (.inr 13)]) rfl ?_
      refine jw_W_gf rfl rfl rfl ?_
      show jw_W (js_S n) _ md_144 8 [some (.inr (.inr 13)), some (.inl e), some (.inl j), none, none] [.inr (.inr 57)] σ _
      refine jw_W_call (as := [.inr (.inr 57)]) (rest := []) rfl rfl rfl rfl (Nat.le_of_ble_eq_true rfl) (.inr rfl) (jx_judgeK hK) (by omega) ?_ rfl
      rintro r1 σ1 ⟨rfl, hf1, hK1⟩
      have hI1 := hK1.1
      have hfo1 := hI1.2.1.1
      have hto1 : (σ1 13 2).toNat = o := by have := hI1.1.1; omega
      have hKN1 := hK1.2.1
      have hjd1 := hK1.2.2.2
      have hme1 := jx_fx_me hf1
      have e1031 : σ1 103 = σ 103 := hme1 103 (by omega)
      have e5701 : σ1 57 0 = σ 103 56 := by rw [← e1031]; exact hI1.2.1.2.1
      have hI1x := jx_I0_x hI1
      have hPm1 := hI1x.2.2.2.2.2.2.2.1
      have hcb1 := hI1x.2.2.2.2.2.2.2.2.1
      have e0561 : σ1 103 56 = σ 103 56 := by rw [e1031]
      have e0031 : σ1 103 3 = σ 103 3 := by rw [e1031]
      have e0041 : σ1 103 4 = σ 103 4 := by rw [e1031]
      have e0051 : σ1 103 5 = σ 103 5 := by rw [e1031]
      show jw_W (js_S n) _ md_144 9 [some (.inr (.inr 13)), some (.inl e), some (.inl j), none, none] [] σ1 _
      refine jw_W_n 1 (i' := 10) (ls' := [some (.inr (.inr 13)), some (.inl e), some (.inl j), none, none]) (st' := [.inr (.inr 13)]) rfl ?_
      refine jw_W_gf rfl rfl rfl ?_
      show jw_W (js_S n) _ md_144 11 [some (.inr (.inr 13)), some (.inl e), some (.inl j), none, none] [.inr (.inr 98)] σ1 _
      refine jw_W_n 2 (i' := 13) (ls' := [some (.inr (.inr 13)), some (.inl e), some (.inl j), none, none]) (st' := [.inr (.inl 1), .inr (.inl 0), .inr (.inr 98)]) rfl ?_
      refine jw_W_call (as := [.inr (.inr 98), .inr (.inl 0), .inr (.inl 1)]) (rest := []) rfl rfl rfl rfl (Nat.le_of_ble_eq_true rfl) (.inr rfl) (jx_set (jx_fo_98 n) (by unfold jm_bg; omega) (by unfold jm_bg; omega) (by omega)) (by omega) ?_ rfl
      rintro r1 σ2 ⟨rfl, hs⟩
      have hf2 : jx_f89 σ1 σ2 := by rw [hs]; exact fun c h1 h2 h3 => jx_fs_o σ1 _ h2
      have hH2 : (σ2 98 0, σ2 98 1) = jx_fr (jk_mN σ1 e (j / 2) (0 : Int).toNat) (jn_K3 σ1) := by rw [hs]; exact (show _ = jx_fr 0 1 from rfl).trans ((show jx_fr 0 1 = ((0, 1) : Int × Int) by decide).trans (jk_fr0 (jn_K3_bd hPm1).1).symm)
      show jw_W (js_S n) _ md_144 14 [some (.inr (.inr 13)), some (.inl e), some (.inl j), none, none] [] σ2 _
      refine jw_W_n 4 (i' := 18) (ls' := [some (.inr (.inr 13)), some (.inl e), some (.inl j), some (.inl 0), some (.inl 0)]) (st' := []) rfl ?_
      refine jw_W_mono (jk_mdx_loop hK1 re (by omega) (by omega) (σ1 103 56).toNat (m := 0) (i := 0) (by omega) (by have := hcb1.1; omega) hf2 hH2 rfl) ?_
      rintro r σ' ⟨v, rfl, hf, hv⟩
      exact ⟨_, rfl, jx_fx_tr hf1 (jx_fy_x hf), .inr (jk_KJ_y hf hK1).2.2, (jk_mda_me hme1 e j v).mp (.inr ⟨by omega, hv⟩)⟩
    · exact absurd hc1 (show ¬ ¬ ((1 : Int) ≠ 0) by omega)
  · rw [hs]
    show jw_W (js_S n) _ md_144 3 [some (.inr (.inr 13)), some (.inl e), some (.inl j), none, none] [.inl 0] σ _
    refine jw_W_if rfl (by unfold jw_rg; omega) (fun hc2 => ?_) (fun hc2 => ?_)
    · exact absurd hc2 (show ¬ ((0 : Int) ≠ 0) by omega)
    · clear hc2
      refine jw_W_ld2 (z := (-1)) rfl rfl ?_
      refine jw_W_lr rfl ?_
      exact ⟨_, rfl, jx_fx_rf σ, hK.2.2, .inl ⟨rfl, by omega⟩⟩

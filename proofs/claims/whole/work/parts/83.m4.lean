/-! ===== the reference's points: laid, their side, their order ===== -/
def jm_lp (σ : jw_H) (k x y z w t : Int) : jw_H := jw_up (jw_up (jw_up (jw_up (jw_up σ 125 k x) 126 k y) 127 k z) 128 k w) 130 k t
def jm_pt (σ : jw_H) (k : Int) : ge_R := (σ 125 k, σ 126 k, σ 127 k, σ 128 k)
/-- small enough for a long -/
def jm_bg (x : Int) : Prop := -9200000000000000000 ≤ x ∧ x ≤ 9200000000000000000
theorem jm_ldiv_ex {x g : Int} (hx : jm_bg x) (hg : 0 < g) (hg2 : g ≤ 9200000000000000000) (hd : g ∣ x) : jw_ldiv x g = x / g := by
  unfold jm_bg at hx
  rw [jm_ldiv ⟨by omega, by omega⟩ ⟨by omega, by omega⟩ (by omega)]
  exact Int.tdiv_eq_ediv_of_dvd hd
theorem jm_laysPoint {n : Nat} {σ : jw_H} {k x y z w t : Int} (k0 : 0 ≤ k) (k1 : k < 64) (hx : jm_bg x) (hy : jm_bg y) (hz : jm_bg z) (hw : 0 < w) (hw2 : jm_bg w) : jw_T (js_S n) 2 236 [.inr (.inr 103), .inl k, .inr (.inl x), .inr (.inl y), .inr (.inl z), .inr (.inl w), .inl t] σ (fun r σ' => r = none ∧ σ' = jm_lp σ k (x / ((Int.gcd (Int.gcd x y : Int) (Int.gcd z w : Int) : Nat) : Int)) (y / ((Int.gcd (Int.gcd x y : Int) (Int.gcd z w : Int) : Nat) : Int)) (z / ((Int.gcd (Int.gcd x y : Int) (Int.gcd z w : Int) : Nat) : Int)) (w / ((Int.gcd (Int.gcd x y : Int) (Int.gcd z w : Int) : Nat) : Int)) t) := by
  refine jw_T_of (D := 1) (M := mm_236) rfl (Nat.le_of_ble_eq_true rfl) (ls0 := [some (.inr (.inr 103)), some (.inl k), some (.inr (.inl x)), none, some (.inr (.inl y)), none, some (.inr (.inl z)), none, some (.inr (.inl w)), none, some (.inl t), none, none]) rfl ?_ (by rintro _ _ ⟨rfl, -⟩; rfl)
  have hb := hx
  have hb2 := hy
  have hb3 := hz
  have hb4 := hw2
  unfold jm_bg at hb hb2 hb3 hb4
  have g1 := jm_gcd_le (a := x) (b := y) (B := 9200000000000000000) ⟨by omega, by omega⟩ ⟨by omega, by omega⟩
  have g2 := jm_gcd_le (a := z) (b := w) (B := 9200000000000000000) ⟨by omega, by omega⟩ ⟨by omega, by omega⟩
  have g3 := jm_gcd_le (a := ((Int.gcd x y : Nat) : Int)) (b := ((Int.gcd z w : Nat) : Int)) (B := 9200000000000000000) ⟨by omega, by omega⟩ ⟨by omega, by omega⟩
  have d1 : Int.gcd ((Int.gcd x y : Nat) : Int) ((Int.gcd z w : Nat) : Int) ∣ Int.gcd x y := by rw [Int.gcd_natCast_natCast]; exact Nat.gcd_dvd_left _ _
  have d2 : Int.gcd ((Int.gcd x y : Nat) : Int) ((Int.gcd z w : Nat) : Int) ∣ Int.gcd z w := by rw [Int.gcd_natCast_natCast]; exact Nat.gcd_dvd_right _ _
  have g4 : 0 < Int.gcd z w := Int.gcd_pos_of_ne_zero_right _ (by omega)
  have g5 : 0 < Int.gcd ((Int.gcd x y : Nat) : Int) ((Int.gcd z w : Nat) : Int) := by rw [Int.gcd_natCast_natCast]; exact Nat.gcd_pos_of_pos_right _ g4
  have e1 := jm_ldiv_ex hx (Int.natCast_pos.mpr g5) (by omega) (Int.dvd_trans (Int.natCast_dvd_natCast.mpr d1) (Int.gcd_dvd_left _ _))
  have e2 := jm_ldiv_ex hy (Int.natCast_pos.mpr g5) (by omega) (Int.dvd_trans (Int.natCast_dvd_natCast.mpr d1) (Int.gcd_dvd_right _ _))
  have e3 := jm_ldiv_ex hz (Int.natCast_pos.mpr g5) (by omega) (Int.dvd_trans (Int.natCast_dvd_natCast.mpr d2) (Int.gcd_dvd_left _ _))
  have e4 := jm_ldiv_ex hw2 (Int.natCast_pos.mpr g5) (by omega) (Int.dvd_trans (Int.natCast_dvd_natCast.mpr d2) (Int.gcd_dvd_right _ _))
  refine jw_W_n 2 (i' := 2) (ls' := [some (.inr (.inr 103)), some (.inl k), some (.inr (.inl x)), none, some (.inr (.inl y)), none, some (.inr (.inl z)), none, some (.inr (.inl w)), none, some (.inl t), none, none]) (st' := [.inr (.inl y), .inr (.inl x)]) rfl ?_
  refine jw_W_call (as := [.inr (.inl x), .inr (.inl y)]) (rest := []) rfl rfl rfl rfl (Nat.le_of_ble_eq_true rfl) (.inl rfl) (jm_gcd (by unfold jw_rgl; omega) (by omega) (by unfold jw_rgl; omega) (by omega)) (by omega) ?_ rfl
  rintro r1 σ1 ⟨rfl, hs⟩
  rw [hs]
  show jw_W (js_S n) _ md_236 3 [some (.inr (.inr 103)), some (.inl k), some (.inr (.inl x)), none, some (.inr (.inl y)), none, some (.inr (.inl z)), none, some (.inr (.inl w)), none, some (.inl t), none, none] [.inr (.inl (((Int.gcd x y : Nat) : Int)))] σ _
  refine jw_W_n 2 (i' := 5) (ls' := [some (.inr (.inr 103)), some (.inl k), some (.inr (.inl x)), none, some (.inr (.inl y)), none, some (.inr (.inl z)), none, some (.inr (.inl w)), none, some (.inl t), none, none]) (st' := [.inr (.inl w), .inr (.inl z), .inr (.inl (((Int.gcd x y : Nat) : Int)))]) rfl ?_
  refine jw_W_call (as := [.inr (.inl z), .inr (.inl w)]) (rest := [.inr (.inl (((Int.gcd x y : Nat) : Int)))]) rfl rfl rfl rfl (Nat.le_of_ble_eq_true rfl) (.inl rfl) (jm_gcd (by unfold jw_rgl; omega) (by omega) (by unfold jw_rgl; omega) (by omega)) (by omega) ?_ rfl
  rintro r1 σ1 ⟨rfl, hs⟩
  rw [hs]
  show jw_W (js_S n) _ md_236 6 [some (.inr (.inr 103)), some (.inl k), some (.inr (.inl x)), none, some (.inr (.inl y)), none, some (.inr (.inl z)), none, some (.inr (.inl w)), none, some (.inl t), none, none] [.inr (.inl (((Int.gcd z w : Nat) : Int))), .inr (.inl (((Int.gcd x y : Nat) : Int)))] σ _
  refine jw_W_call (as := [.inr (.inl (((Int.gcd x y : Nat) : Int))), .inr (.inl (((Int.gcd z w : Nat) : Int)))]) (rest := []) rfl rfl rfl rfl (Nat.le_of_ble_eq_true rfl) (.inl rfl) (jm_gcd (by unfold jw_rgl; omega) (by omega) (by unfold jw_rgl; omega) (by omega)) (by omega) ?_ rfl
  rintro r1 σ1 ⟨rfl, hs⟩
  rw [hs]
  show jw_W (js_S n) _ md_236 7 [some (.inr (.inr 103)), some (.inl k), some (.inr (.inl x)), none, some (.inr (.inl y)), none, some (.inr (.inl z)), none, some (.inr (.inl w)), none, some (.inl t), none, none] [.inr (.inl (((Int.gcd (((Int.gcd x y : Nat) : Int)) (((Int.gcd z w : Nat) : Int)) : Nat) : Int)))] σ _
  refine jw_W_n 2 (i' := 9) (ls' := [some (.inr (.inr 103)), some (.inl k), some (.inr (.inl x)), none, some (.inr (.inl y)), none, some (.inr (.inl z)), none, some (.inr (.inl w)), none, some (.inl t), some (.inr (.inl (((Int.gcd (((Int.gcd x y : Nat) : Int)) (((Int.gcd z w : Nat) : Int)) : Nat) : Int)))), none]) (st' := [.inr (.inr 103)]) rfl ?_
  refine jw_W_gf rfl rfl rfl ?_
  show jw_W (js_S n) _ md_236 10 [some (.inr (.inr 103)), some (.inl k), some (.inr (.inl x)), none, some (.inr (.inl y)), none, some (.inr (.inl z)), none, some (.inr (.inl w)), none, some (.inl t), some (.inr (.inl (((Int.gcd (((Int.gcd x y : Nat) : Int)) (((Int.gcd z w : Nat) : Int)) : Nat) : Int)))), none] [.inr (.inr 125)] σ _
  refine jw_W_n 3 (i' := 13) (ls' := [some (.inr (.inr 103)), some (.inl k), some (.inr (.inl x)), none, some (.inr (.inl y)), none, some (.inr (.inl z)), none, some (.inr (.inl w)), none, some (.inl t), some (.inr (.inl (((Int.gcd (((Int.gcd x y : Nat) : Int)) (((Int.gcd z w : Nat) : Int)) : Nat) : Int)))), none]) (st' := [.inr (.inl (((Int.gcd (((Int.gcd x y : Nat) : Int)) (((Int.gcd z w : Nat) : Int)) : Nat) : Int))), .inr (.inl x), .inl k, .inr (.inr 125)]) rfl ?_
  refine jw_W_ldiv rfl (by unfold jw_rgl; omega) (by omega) ?_
  refine jw_W_ls rfl (by omega) rfl (by omega) (by omega) (by omega) ?_
  refine jw_W_n 1 (i' := 16) (ls' := [some (.inr (.inr 103)), some (.inl k), some (.inr (.inl x)), none, some (.inr (.inl y)), none, some (.inr (.inl z)), none, some (.inr (.inl w)), none, some (.inl t), some (.inr (.inl (((Int.gcd (((Int.gcd x y : Nat) : Int)) (((Int.gcd z w : Nat) : Int)) : Nat) : Int)))), none]) (st' := [.inr (.inr 103)]) rfl ?_
  refine jw_W_gf rfl rfl rfl ?_
  show jw_W (js_S n) _ md_236 17 [some (.inr (.inr 103)), some (.inl k), some (.inr (.inl x)), none, some (.inr (.inl y)), none, some (.inr (.inl z)), none, some (.inr (.inl w)), none, some (.inl t), some (.inr (.inl (((Int.gcd (((Int.gcd x y : Nat) : Int)) (((Int.gcd z w : Nat) : Int)) : Nat) : Int)))), none] [.inr (.inr 126)] ((jw_up σ 125 k (jw_ldiv x (((Int.gcd (((Int.gcd x y : Nat) : Int)) (((Int.gcd z w : Nat) : Int)) : Nat) : Int))))) _
  refine jw_W_n 3 (i' := 20) (ls' := [some (.inr (.inr 103)), some (.inl k), some (.inr (.inl x)), none, some (.inr (.inl y)), none, some (.inr (.inl z)), none, some (.inr (.inl w)), none, some (.inl t), some (.inr (.inl (((Int.gcd (((Int.gcd x y : Nat) : Int)) (((Int.gcd z w : Nat) : Int)) : Nat) : Int)))), none]) (st' := [.inr (.inl (((Int.gcd (((Int.gcd x y : Nat) : Int)) (((Int.gcd z w : Nat) : Int)) : Nat) : Int))), .inr (.inl y), .inl k, .inr (.inr 126)]) rfl ?_
  refine jw_W_ldiv rfl (by unfold jw_rgl; omega) (by omega) ?_
  refine jw_W_ls rfl (by omega) rfl (by omega) (by omega) (by omega) ?_
  refine jw_W_n 1 (i' := 23) (ls' := [some (.inr (.inr 103)), some (.inl k), some (.inr (.inl x)), none, some (.inr (.inl y)), none, some (.inr (.inl z)), none, some (.inr (.inl w)), none, some (.inl t), some (.inr (.inl (((Int.gcd (((Int.gcd x y : Nat) : Int)) (((Int.gcd z w : Nat) : Int)) : Nat) : Int)))), none]) (st' := [.inr (.inr 103)]) rfl ?_
  refine jw_W_gf rfl rfl rfl ?_
  show jw_W (js_S n) _ md_236 24 [some (.inr (.inr 103)), some (.inl k), some (.inr (.inl x)), none, some (.inr (.inl y)), none, some (.inr (.inl z)), none, some (.inr (.inl w)), none, some (.inl t), some (.inr (.inl (((Int.gcd (((Int.gcd x y : Nat) : Int)) (((Int.gcd z w : Nat) : Int)) : Nat) : Int)))), none] [.inr (.inr 127)] ((jw_up (jw_up σ 125 k (jw_ldiv x (((Int.gcd (((Int.gcd x y : Nat) : Int)) (((Int.gcd z w : Nat) : Int)) : Nat) : Int)))) 126 k (jw_ldiv y (((Int.gcd (((Int.gcd x y : Nat) : Int)) (((Int.gcd z w : Nat) : Int)) : Nat) : Int))))) _
  refine jw_W_n 3 (i' := 27) (ls' := [some (.inr (.inr 103)), some (.inl k), some (.inr (.inl x)), none, some (.inr (.inl y)), none, some (.inr (.inl z)), none, some (.inr (.inl w)), none, some (.inl t), some (.inr (.inl (((Int.gcd (((Int.gcd x y : Nat) : Int)) (((Int.gcd z w : Nat) : Int)) : Nat) : Int)))), none]) (st' := [.inr (.inl (((Int.gcd (((Int.gcd x y : Nat) : Int)) (((Int.gcd z w : Nat) : Int)) : Nat) : Int))), .inr (.inl z), .inl k, .inr (.inr 127)]) rfl ?_
  refine jw_W_ldiv rfl (by unfold jw_rgl; omega) (by omega) ?_
  refine jw_W_ls rfl (by omega) rfl (by omega) (by omega) (by omega) ?_
  refine jw_W_n 1 (i' := 30) (ls' := [some (.inr (.inr 103)), some (.inl k), some (.inr (.inl x)), none, some (.inr (.inl y)), none, some (.inr (.inl z)), none, some (.inr (.inl w)), none, some (.inl t), some (.inr (.inl (((Int.gcd (((Int.gcd x y : Nat) : Int)) (((Int.gcd z w : Nat) : Int)) : Nat) : Int)))), none]) (st' := [.inr (.inr 103)]) rfl ?_
  refine jw_W_gf rfl rfl rfl ?_
  show jw_W (js_S n) _ md_236 31 [some (.inr (.inr 103)), some (.inl k), some (.inr (.inl x)), none, some (.inr (.inl y)), none, some (.inr (.inl z)), none, some (.inr (.inl w)), none, some (.inl t), some (.inr (.inl (((Int.gcd (((Int.gcd x y : Nat) : Int)) (((Int.gcd z w : Nat) : Int)) : Nat) : Int)))), none] [.inr (.inr 128)] ((jw_up (jw_up (jw_up σ 125 k (jw_ldiv x (((Int.gcd (((Int.gcd x y : Nat) : Int)) (((Int.gcd z w : Nat) : Int)) : Nat) : Int)))) 126 k (jw_ldiv y (((Int.gcd (((Int.gcd x y : Nat) : Int)) (((Int.gcd z w : Nat) : Int)) : Nat) : Int)))) 127 k (jw_ldiv z (((Int.gcd (((Int.gcd x y : Nat) : Int)) (((Int.gcd z w : Nat) : Int)) : Nat) : Int))))) _
  refine jw_W_n 3 (i' := 34) (ls' := [some (.inr (.inr 103)), some (.inl k), some (.inr (.inl x)), none, some (.inr (.inl y)), none, some (.inr (.inl z)), none, some (.inr (.inl w)), none, some (.inl t), some (.inr (.inl (((Int.gcd (((Int.gcd x y : Nat) : Int)) (((Int.gcd z w : Nat) : Int)) : Nat) : Int)))), none]) (st' := [.inr (.inl (((Int.gcd (((Int.gcd x y : Nat) : Int)) (((Int.gcd z w : Nat) : Int)) : Nat) : Int))), .inr (.inl w), .inl k, .inr (.inr 128)]) rfl ?_
  refine jw_W_ldiv rfl (by unfold jw_rgl; omega) (by omega) ?_
  refine jw_W_ls rfl (by omega) rfl (by omega) (by omega) (by omega) ?_
  refine jw_W_n 1 (i' := 37) (ls' := [some (.inr (.inr 103)), some (.inl k), some (.inr (.inl x)), none, some (.inr (.inl y)), none, some (.inr (.inl z)), none, some (.inr (.inl w)), none, some (.inl t), some (.inr (.inl (((Int.gcd (((Int.gcd x y : Nat) : Int)) (((Int.gcd z w : Nat) : Int)) : Nat) : Int)))), none]) (st' := [.inr (.inr 103)]) rfl ?_
  refine jw_W_gf rfl rfl rfl ?_
  show jw_W (js_S n) _ md_236 38 [some (.inr (.inr 103)), some (.inl k), some (.inr (.inl x)), none, some (.inr (.inl y)), none, some (.inr (.inl z)), none, some (.inr (.inl w)), none, some (.inl t), some (.inr (.inl (((Int.gcd (((Int.gcd x y : Nat) : Int)) (((Int.gcd z w : Nat) : Int)) : Nat) : Int)))), none] [.inr (.inr 130)] ((jw_up (jw_up (jw_up (jw_up σ 125 k (jw_ldiv x (((Int.gcd (((Int.gcd x y : Nat) : Int)) (((Int.gcd z w : Nat) : Int)) : Nat) : Int)))) 126 k (jw_ldiv y (((Int.gcd (((Int.gcd x y : Nat) : Int)) (((Int.gcd z w : Nat) : Int)) : Nat) : Int)))) 127 k (jw_ldiv z (((Int.gcd (((Int.gcd x y : Nat) : Int)) (((Int.gcd z w : Nat) : Int)) : Nat) : Int)))) 128 k (jw_ldiv w (((Int.gcd (((Int.gcd x y : Nat) : Int)) (((Int.gcd z w : Nat) : Int)) : Nat) : Int))))) _
  refine jw_W_n 2 (i' := 40) (ls' := [some (.inr (.inr 103)), some (.inl k), some (.inr (.inl x)), none, some (.inr (.inl y)), none, some (.inr (.inl z)), none, some (.inr (.inl w)), none, some (.inl t), some (.inr (.inl (((Int.gcd (((Int.gcd x y : Nat) : Int)) (((Int.gcd z w : Nat) : Int)) : Nat) : Int)))), none]) (st' := [.inl t, .inl k, .inr (.inr 130)]) rfl ?_
  refine jw_W_is rfl (by omega) rfl (by omega) (by omega) (by omega) ?_
  refine jw_W_re rfl ?_
  rw [e1, e2, e3, e4]
  exact ⟨rfl, rfl⟩
def jm_rw (σ : jw_H) (b m : Int) : ge_R := (σ 131 (3 * b), σ 131 (3 * b + 1), σ 131 (3 * b + 2), m)
theorem jm_sideOf {n : Nat} {σ : jw_H} {k b m : Int} (hN : jm_Ns σ) (k0 : 0 ≤ k) (k1 : k < 64) (b0 : 0 ≤ b) (b1 : b < 20) : jw_T (js_S n) 1 238 [.inr (.inr 103), .inl k, .inl b, .inr (.inl m)] σ (fun r σ' => r = some (.inr (.inl (ge_s (jm_rw σ b m) (jm_pt σ k)))) ∧ σ' = σ) := by
  refine jw_T_of (D := 0) (M := mm_238) rfl (Nat.le_of_ble_eq_true rfl) (ls0 := [some (.inr (.inr 103)), some (.inl k), some (.inl b), some (.inr (.inl m)), none]) rfl ?_ (by rintro _ _ ⟨rfl, -⟩; rfl)
  have n0 := hN (3 * b) (by omega) (by omega)
  have n1 := hN (3 * b + 1) (by omega) (by omega)
  have n2 := hN (3 * b + 2) (by omega) (by omega)
  refine jw_W_n 1 (i' := 1) (ls' := [some (.inr (.inr 103)), some (.inl k), some (.inl b), some (.inr (.inl m)), none]) (st' := [.inr (.inr 103)]) rfl ?_
  refine jw_W_gf rfl rfl rfl ?_
  show jw_W (js_S n) _ md_238 2 [some (.inr (.inr 103)), some (.inl k), some (.inl b), some (.inr (.inl m)), none] [.inr (.inr 131)] σ _
  refine jw_W_n 3 (i' := 5) (ls' := [some (.inr (.inr 103)), some (.inl k), some (.inl b), some (.inr (.inl m)), none]) (st' := [.inl (3 * b), .inr (.inr 131)]) rfl ?_
  refine jw_W_ia rfl rfl (by omega) (by omega) (by omega) ?_
  show jw_W (js_S n) _ md_238 6 [some (.inr (.inr 103)), some (.inl k), some (.inl b), some (.inr (.inl m)), none] [.inl (σ 131 (3 * b))] σ _
  refine jw_W_i2l rfl (by unfold jw_rg; omega) ?_
  refine jw_W_n 1 (i' := 8) (ls' := [some (.inr (.inr 103)), some (.inl k), some (.inl b), some (.inr (.inl m)), none]) (st' := [.inr (.inr 103), .inr (.inl (σ 131 (3 * b)))]) rfl ?_
  refine jw_W_gf rfl rfl rfl ?_
  show jw_W (js_S n) _ md_238 9 [some (.inr (.inr 103)), some (.inl k), some (.inl b), some (.inr (.inl m)), none] [.inr (.inr 125), .inr (.inl (σ 131 (3 * b)))] σ _
  refine jw_W_n 1 (i' := 10) (ls' := [some (.inr (.inr 103)), some (.inl k), some (.inl b), some (.inr (.inl m)), none]) (st' := [.inl k, .inr (.inr 125), .inr (.inl (σ 131 (3 * b)))]) rfl ?_
  refine jw_W_la rfl rfl (by omega) (by omega) (by omega) ?_
  show jw_W (js_S n) _ md_238 11 [some (.inr (.inr 103)), some (.inl k), some (.inl b), some (.inr (.inl m)), none] [.inr (.inl (σ 125 k)), .inr (.inl (σ 131 (3 * b)))] σ _
  refine jw_W_n 2 (i' := 13) (ls' := [some (.inr (.inr 103)), some (.inl k), some (.inl b), some (.inr (.inl m)), none]) (st' := [.inr (.inr 103), .inr (.inl ((σ 131 (3 * b)) * (σ 125 k)))]) rfl ?_
  refine jw_W_gf rfl rfl rfl ?_
  show jw_W (js_S n) _ md_238 14 [some (.inr (.inr 103)), some (.inl k), some (.inl b), some (.inr (.inl m)), none] [.inr (.inr 131), .inr (.inl ((σ 131 (3 * b)) * (σ 125 k)))] σ _
  refine jw_W_n 5 (i' := 19) (ls' := [some (.inr (.inr 103)), some (.inl k), some (.inl b), some (.inr (.inl m)), none]) (st' := [.inl ((3 * b) + 1), .inr (.inr 131), .inr (.inl ((σ 131 (3 * b)) * (σ 125 k)))]) rfl ?_
  refine jw_W_ia rfl rfl (by omega) (by omega) (by omega) ?_
  show jw_W (js_S n) _ md_238 20 [some (.inr (.inr 103)), some (.inl k), some (.inl b), some (.inr (.inl m)), none] [.inl (σ 131 ((3 * b) + 1)), .inr (.inl ((σ 131 (3 * b)) * (σ 125 k)))] σ _
  refine jw_W_i2l rfl (by unfold jw_rg; omega) ?_
  refine jw_W_n 1 (i' := 22) (ls' := [some (.inr (.inr 103)), some (.inl k), some (.inl b), some (.inr (.inl m)), none]) (st' := [.inr (.inr 103), .inr (.inl (σ 131 ((3 * b) + 1))), .inr (.inl ((σ 131 (3 * b)) * (σ 125 k)))]) rfl ?_
  refine jw_W_gf rfl rfl rfl ?_
  show jw_W (js_S n) _ md_238 23 [some (.inr (.inr 103)), some (.inl k), some (.inl b), some (.inr (.inl m)), none] [.inr (.inr 126), .inr (.inl (σ 131 ((3 * b) + 1))), .inr (.inl ((σ 131 (3 * b)) * (σ 125 k)))] σ _
  refine jw_W_n 1 (i' := 24) (ls' := [some (.inr (.inr 103)), some (.inl k), some (.inl b), some (.inr (.inl m)), none]) (st' := [.inl k, .inr (.inr 126), .inr (.inl (σ 131 ((3 * b) + 1))), .inr (.inl ((σ 131 (3 * b)) * (σ 125 k)))]) rfl ?_
  refine jw_W_la rfl rfl (by omega) (by omega) (by omega) ?_
  show jw_W (js_S n) _ md_238 25 [some (.inr (.inr 103)), some (.inl k), some (.inl b), some (.inr (.inl m)), none] [.inr (.inl (σ 126 k)), .inr (.inl (σ 131 ((3 * b) + 1))), .inr (.inl ((σ 131 (3 * b)) * (σ 125 k)))] σ _
  refine jw_W_n 3 (i' := 28) (ls' := [some (.inr (.inr 103)), some (.inl k), some (.inl b), some (.inr (.inl m)), none]) (st' := [.inr (.inr 103), .inr (.inl (((σ 131 (3 * b)) * (σ 125 k)) + ((σ 131 ((3 * b) + 1)) * (σ 126 k))))]) rfl ?_
  refine jw_W_gf rfl rfl rfl ?_
  show jw_W (js_S n) _ md_238 29 [some (.inr (.inr 103)), some (.inl k), some (.inl b), some (.inr (.inl m)), none] [.inr (.inr 131), .inr (.inl (((σ 131 (3 * b)) * (σ 125 k)) + ((σ 131 ((3 * b) + 1)) * (σ 126 k))))] σ _
  refine jw_W_n 5 (i' := 34) (ls' := [some (.inr (.inr 103)), some (.inl k), some (.inl b), some (.inr (.inl m)), none]) (st' := [.inl ((3 * b) + 2), .inr (.inr 131), .inr (.inl (((σ 131 (3 * b)) * (σ 125 k)) + ((σ 131 ((3 * b) + 1)) * (σ 126 k))))]) rfl ?_
  refine jw_W_ia rfl rfl (by omega) (by omega) (by omega) ?_
  show jw_W (js_S n) _ md_238 35 [some (.inr (.inr 103)), some (.inl k), some (.inl b), some (.inr (.inl m)), none] [.inl (σ 131 ((3 * b) + 2)), .inr (.inl (((σ 131 (3 * b)) * (σ 125 k)) + ((σ 131 ((3 * b) + 1)) * (σ 126 k))))] σ _
  refine jw_W_i2l rfl (by unfold jw_rg; omega) ?_
  refine jw_W_n 1 (i' := 37) (ls' := [some (.inr (.inr 103)), some (.inl k), some (.inl b), some (.inr (.inl m)), none]) (st' := [.inr (.inr 103), .inr (.inl (σ 131 ((3 * b) + 2))), .inr (.inl (((σ 131 (3 * b)) * (σ 125 k)) + ((σ 131 ((3 * b) + 1)) * (σ 126 k))))]) rfl ?_
  refine jw_W_gf rfl rfl rfl ?_
  show jw_W (js_S n) _ md_238 38 [some (.inr (.inr 103)), some (.inl k), some (.inl b), some (.inr (.inl m)), none] [.inr (.inr 127), .inr (.inl (σ 131 ((3 * b) + 2))), .inr (.inl (((σ 131 (3 * b)) * (σ 125 k)) + ((σ 131 ((3 * b) + 1)) * (σ 126 k))))] σ _
  refine jw_W_n 1 (i' := 39) (ls' := [some (.inr (.inr 103)), some (.inl k), some (.inl b), some (.inr (.inl m)), none]) (st' := [.inl k, .inr (.inr 127), .inr (.inl (σ 131 ((3 * b) + 2))), .inr (.inl (((σ 131 (3 * b)) * (σ 125 k)) + ((σ 131 ((3 * b) + 1)) * (σ 126 k))))]) rfl ?_
  refine jw_W_la rfl rfl (by omega) (by omega) (by omega) ?_
  show jw_W (js_S n) _ md_238 40 [some (.inr (.inr 103)), some (.inl k), some (.inl b), some (.inr (.inl m)), none] [.inr (.inl (σ 127 k)), .inr (.inl (σ 131 ((3 * b) + 2))), .inr (.inl (((σ 131 (3 * b)) * (σ 125 k)) + ((σ 131 ((3 * b) + 1)) * (σ 126 k))))] σ _
  refine jw_W_n 4 (i' := 44) (ls' := [some (.inr (.inr 103)), some (.inl k), some (.inl b), some (.inr (.inl m)), none]) (st' := [.inr (.inr 103), .inr (.inl m), .inr (.inl ((((σ 131 (3 * b)) * (σ 125 k)) + ((σ 131 ((3 * b) + 1)) * (σ 126 k))) + ((σ 131 ((3 * b) + 2)) * (σ 127 k))))]) rfl ?_
  refine jw_W_gf rfl rfl rfl ?_
  show jw_W (js_S n) _ md_238 45 [some (.inr (.inr 103)), some (.inl k), some (.inl b), some (.inr (.inl m)), none] [.inr (.inr 128), .inr (.inl m), .inr (.inl ((((σ 131 (3 * b)) * (σ 125 k)) + ((σ 131 ((3 * b) + 1)) * (σ 126 k))) + ((σ 131 ((3 * b) + 2)) * (σ 127 k))))] σ _
  refine jw_W_n 1 (i' := 46) (ls' := [some (.inr (.inr 103)), some (.inl k), some (.inl b), some (.inr (.inl m)), none]) (st' := [.inl k, .inr (.inr 128), .inr (.inl m), .inr (.inl ((((σ 131 (3 * b)) * (σ 125 k)) + ((σ 131 ((3 * b) + 1)) * (σ 126 k))) + ((σ 131 ((3 * b) + 2)) * (σ 127 k))))]) rfl ?_
  refine jw_W_la rfl rfl (by omega) (by omega) (by omega) ?_
  show jw_W (js_S n) _ md_238 47 [some (.inr (.inr 103)), some (.inl k), some (.inl b), some (.inr (.inl m)), none] [.inr (.inl (σ 128 k)), .inr (.inl m), .inr (.inl ((((σ 131 (3 * b)) * (σ 125 k)) + ((σ 131 ((3 * b) + 1)) * (σ 126 k))) + ((σ 131 ((3 * b) + 2)) * (σ 127 k))))] σ _
  refine jw_W_n 2 (i' := 49) (ls' := [some (.inr (.inr 103)), some (.inl k), some (.inl b), some (.inr (.inl m)), none]) (st' := [.inr (.inl (((((σ 131 (3 * b)) * (σ 125 k)) + ((σ 131 ((3 * b) + 1)) * (σ 126 k))) + ((σ 131 ((3 * b) + 2)) * (σ 127 k))) - (m * (σ 128 k))))]) rfl ?_
  refine jw_W_lr rfl ?_
  exact ⟨rfl, rfl⟩
theorem jm_compared {n : Nat} {σ : jw_H} {x y : Int} (hx : jw_rgl x) (hy : jw_rgl y) : jw_T (js_S n) 1 243 [.inr (.inl x), .inr (.inl y)] σ (fun r σ' => (r = some (.inl (-1)) ∧ σ' = σ ∧ x < y) ∨ (r = some (.inl 1) ∧ σ' = σ ∧ y < x) ∨ (r = some (.inl 0) ∧ σ' = σ ∧ x = y)) := by
  refine jw_T_of (D := 0) (M := mm_243) rfl (Nat.le_of_ble_eq_true rfl) (ls0 := [some (.inr (.inl x)), none, some (.inr (.inl y)), none]) rfl ?_ (by rintro _ _ (⟨rfl, -⟩ | ⟨rfl, -⟩ | ⟨rfl, -⟩) <;> rfl)
  unfold jw_rgl at hx hy
  refine jw_W_n 2 (i' := 2) (ls' := [some (.inr (.inl x)), none, some (.inr (.inl y)), none]) (st' := [.inr (.inl y), .inr (.inl x)]) rfl ?_
  refine jw_W_lc rfl rfl (by unfold jw_rgl; omega) (by unfold jw_rgl; omega) (fun hc1 => ?_) (fun hc1 => ?_)
  · have hc1 : x ≥ y := hc1
    refine jw_W_n 2 (i' := 8) (ls' := [some (.inr (.inl x)), none, some (.inr (.inl y)), none]) (st' := [.inr (.inl y), .inr (.inl x)]) rfl ?_
    refine jw_W_lc rfl rfl (by unfold jw_rgl; omega) (by unfold jw_rgl; omega) (fun hc2 => ?_) (fun hc2 => ?_)
    · have hc2 : x ≤ y := hc2
      refine jw_W_n 1 (i' := 13) (ls' := [some (.inr (.inl x)), none, some (.inr (.inl y)), none]) (st' := [.inl 0]) rfl ?_
      refine jw_W_ir rfl ?_
      exact .inr (.inr ⟨rfl, rfl, by omega⟩)
    · have hc2 : ¬ (x ≤ y) := hc2
      refine jw_W_n 2 (i' := 13) (ls' := [some (.inr (.inl x)), none, some (.inr (.inl y)), none]) (st' := [.inl 1]) rfl ?_
      refine jw_W_ir rfl ?_
      exact .inr (.inl ⟨rfl, rfl, by omega⟩)
  · have hc1 : ¬ (x ≥ y) := hc1
    refine jw_W_n 2 (i' := 13) (ls' := [some (.inr (.inl x)), none, some (.inr (.inl y)), none]) (st' := [.inl ((-1))]) rfl ?_
    refine jw_W_ir rfl ?_
    exact .inl ⟨rfl, rfl, by omega⟩

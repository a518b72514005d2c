/-! ===== the reference's body: normals, what leaves a line, points ===== -/
def jm_ln (σ : jw_H) (k a b c : Int) : jw_H := jw_up (jw_up (jw_up σ 131 (3 * k) a) 131 (3 * k + 1) b) 131 (3 * k + 2) c
def jm_N (σ : jw_H) (k : Int) : ge_D := (σ 131 (3 * k), σ 131 (3 * k + 1), σ 131 (3 * k + 2))
/-- normals are small -/
def jm_Ns (σ : jw_H) : Prop := ∀ j, 0 ≤ j → j < 60 → -3 ≤ σ 131 j ∧ σ 131 j ≤ 3
theorem jm_laysNormal {n : Nat} {σ : jw_H} {k a b c : Int} (k0 : 0 ≤ k) (k1 : k < 20) : jw_T (js_S n) 1 232 [.inr (.inr 103), .inl k, .inl a, .inl b, .inl c] σ (fun r σ' => r = none ∧ σ' = jm_ln σ k a b c) := by
  refine jw_T_of (D := 0) (M := mm_232) rfl (Nat.le_of_ble_eq_true rfl) (ls0 := [some (.inr (.inr 103)), some (.inl k), some (.inl a), some (.inl b), some (.inl c)]) rfl ?_ (by rintro _ _ ⟨rfl, -⟩; rfl)
  refine jw_W_n 1 (i' := 1) (ls' := [some (.inr (.inr 103)), some (.inl k), some (.inl a), some (.inl b), some (.inl c)]) (st' := [.inr (.inr 103)]) rfl ?_
  refine jw_W_gf rfl rfl rfl ?_
  show jw_W (js_S n) _ md_232 2 [some (.inr (.inr 103)), some (.inl k), some (.inl a), some (.inl b), some (.inl c)] [.inr (.inr 131)] σ _
  refine jw_W_n 4 (i' := 6) (ls' := [some (.inr (.inr 103)), some (.inl k), some (.inl a), some (.inl b), some (.inl c)]) (st' := [.inl a, .inl (3 * k), .inr (.inr 131)]) rfl ?_
  refine jw_W_is rfl (by omega) rfl (by omega) (by omega) (by omega) ?_
  refine jw_W_n 1 (i' := 8) (ls' := [some (.inr (.inr 103)), some (.inl k), some (.inl a), some (.inl b), some (.inl c)]) (st' := [.inr (.inr 103)]) rfl ?_
  refine jw_W_gf rfl rfl rfl ?_
  show jw_W (js_S n) _ md_232 9 [some (.inr (.inr 103)), some (.inl k), some (.inl a), some (.inl b), some (.inl c)] [.inr (.inr 131)] ((jw_up σ 131 (3 * k) a)) _
  refine jw_W_n 6 (i' := 15) (ls' := [some (.inr (.inr 103)), some (.inl k), some (.inl a), some (.inl b), some (.inl c)]) (st' := [.inl b, .inl ((3 * k) + 1), .inr (.inr 131)]) rfl ?_
  refine jw_W_is rfl (by omega) rfl (by omega) (by omega) (by omega) ?_
  refine jw_W_n 1 (i' := 17) (ls' := [some (.inr (.inr 103)), some (.inl k), some (.inl a), some (.inl b), some (.inl c)]) (st' := [.inr (.inr 103)]) rfl ?_
  refine jw_W_gf rfl rfl rfl ?_
  show jw_W (js_S n) _ md_232 18 [some (.inr (.inr 103)), some (.inl k), some (.inl a), some (.inl b), some (.inl c)] [.inr (.inr 131)] ((jw_up (jw_up σ 131 (3 * k) a) 131 ((3 * k) + 1) b)) _
  refine jw_W_n 6 (i' := 24) (ls' := [some (.inr (.inr 103)), some (.inl k), some (.inl a), some (.inl b), some (.inl c)]) (st' := [.inl c, .inl ((3 * k) + 2), .inr (.inr 131)]) rfl ?_
  refine jw_W_is rfl (by omega) rfl (by omega) (by omega) (by omega) ?_
  refine jw_W_re rfl ?_
  exact ⟨rfl, rfl⟩
theorem jm_isNothing {n : Nat} {σ : jw_H} {k : Int} (hN : jm_Ns σ) (k0 : 0 ≤ k) (k1 : k < 20) : jw_T (js_S n) 1 233 [.inr (.inr 103), .inl k] σ (fun r σ' => (r = some (.inl 1) ∧ σ' = σ ∧ ¬ ge_nz (jm_N σ k)) ∨ (r = some (.inl 0) ∧ σ' = σ ∧ ge_nz (jm_N σ k))) := by
  refine jw_T_of (D := 0) (M := mm_233) rfl (Nat.le_of_ble_eq_true rfl) (ls0 := [some (.inr (.inr 103)), some (.inl k)]) rfl ?_ (by rintro _ _ (⟨rfl, -⟩ | ⟨rfl, -⟩) <;> rfl)
  have n0 := hN (3 * k) (by omega) (by omega)
  have n1 := hN (3 * k + 1) (by omega) (by omega)
  have n2 := hN (3 * k + 2) (by omega) (by omega)
  refine jw_W_n 1 (i' := 1) (ls' := [some (.inr (.inr 103)), some (.inl k)]) (st' := [.inr (.inr 103)]) rfl ?_
  refine jw_W_gf rfl rfl rfl ?_
  show jw_W (js_S n) _ md_233 2 [some (.inr (.inr 103)), some (.inl k)] [.inr (.inr 131)] σ _
  refine jw_W_n 3 (i' := 5) (ls' := [some (.inr (.inr 103)), some (.inl k)]) (st' := [.inl (3 * k), .inr (.inr 131)]) rfl ?_
  refine jw_W_ia rfl rfl (by omega) (by omega) (by omega) ?_
  show jw_W (js_S n) _ md_233 6 [some (.inr (.inr 103)), some (.inl k)] [.inl (σ 131 (3 * k))] σ _
  refine jw_W_if rfl (by unfold jw_rg; omega) (fun hc1 => ?_) (fun hc1 => ?_)
  · have hc1 : (σ 131 (3 * k)) ≠ 0 := hc1
    refine jw_W_n 1 (i' := 28) (ls' := [some (.inr (.inr 103)), some (.inl k)]) (st' := [.inl 0]) rfl ?_
    refine jw_W_ir rfl ?_
    exact .inr ⟨rfl, rfl, by simp only [jm_N, ge_nz]; omega⟩
  · have hc1 : ¬ ((σ 131 (3 * k)) ≠ 0) := hc1
    refine jw_W_n 1 (i' := 8) (ls' := [some (.inr (.inr 103)), some (.inl k)]) (st' := [.inr (.inr 103)]) rfl ?_
    refine jw_W_gf rfl rfl rfl ?_
    show jw_W (js_S n) _ md_233 9 [some (.inr (.inr 103)), some (.inl k)] [.inr (.inr 131)] σ _
    refine jw_W_n 5 (i' := 14) (ls' := [some (.inr (.inr 103)), some (.inl k)]) (st' := [.inl ((3 * k) + 1), .inr (.inr 131)]) rfl ?_
    refine jw_W_ia rfl rfl (by omega) (by omega) (by omega) ?_
    show jw_W (js_S n) _ md_233 15 [some (.inr (.inr 103)), some (.inl k)] [.inl (σ 131 ((3 * k) + 1))] σ _
    refine jw_W_if rfl (by unfold jw_rg; omega) (fun hc2 => ?_) (fun hc2 => ?_)
    · have hc2 : (σ 131 ((3 * k) + 1)) ≠ 0 := hc2
      refine jw_W_n 1 (i' := 28) (ls' := [some (.inr (.inr 103)), some (.inl k)]) (st' := [.inl 0]) rfl ?_
      refine jw_W_ir rfl ?_
      exact .inr ⟨rfl, rfl, by simp only [jm_N, ge_nz]; omega⟩
    · have hc2 : ¬ ((σ 131 ((3 * k) + 1)) ≠ 0) := hc2
      refine jw_W_n 1 (i' := 17) (ls' := [some (.inr (.inr 103)), some (.inl k)]) (st' := [.inr (.inr 103)]) rfl ?_
      refine jw_W_gf rfl rfl rfl ?_
      show jw_W (js_S n) _ md_233 18 [some (.inr (.inr 103)), some (.inl k)] [.inr (.inr 131)] σ _
      refine jw_W_n 5 (i' := 23) (ls' := [some (.inr (.inr 103)), some (.inl k)]) (st' := [.inl ((3 * k) + 2), .inr (.inr 131)]) rfl ?_
      refine jw_W_ia rfl rfl (by omega) (by omega) (by omega) ?_
      show jw_W (js_S n) _ md_233 24 [some (.inr (.inr 103)), some (.inl k)] [.inl (σ 131 ((3 * k) + 2))] σ _
      refine jw_W_if rfl (by unfold jw_rg; omega) (fun hc3 => ?_) (fun hc3 => ?_)
      · have hc3 : (σ 131 ((3 * k) + 2)) ≠ 0 := hc3
        refine jw_W_n 1 (i' := 28) (ls' := [some (.inr (.inr 103)), some (.inl k)]) (st' := [.inl 0]) rfl ?_
        refine jw_W_ir rfl ?_
        exact .inr ⟨rfl, rfl, by simp only [jm_N, ge_nz]; omega⟩
      · have hc3 : ¬ ((σ 131 ((3 * k) + 2)) ≠ 0) := hc3
        refine jw_W_n 2 (i' := 28) (ls' := [some (.inr (.inr 103)), some (.inl k)]) (st' := [.inl 1]) rfl ?_
        refine jw_W_ir rfl ?_
        exact .inl ⟨rfl, rfl, by simp only [jm_N, ge_nz]; omega⟩
/-- across two normals -/
def jm_X (a b : ge_D) : ge_D := (a.2.1 * b.2.2 - a.2.2 * b.2.1, a.2.2 * b.1 - a.1 * b.2.2, a.1 * b.2.1 - a.2.1 * b.1)
theorem jm_m9 {a x : Int} (ha : -3 ≤ a ∧ a ≤ 3) (hx : -3 ≤ x ∧ x ≤ 3) : -9 ≤ a * x ∧ a * x ≤ 9 := ge_m3 ha.1 ha.2 hx.1 hx.2
theorem jm_goAlike {n : Nat} {σ : jw_H} {i j : Int} (hN : jm_Ns σ) (i0 : 0 ≤ i) (i1 : i < 20) (j0 : 0 ≤ j) (j1 : j < 20) : jw_T (js_S n) 1 234 [.inr (.inr 103), .inl i, .inl j] σ (fun r σ' => (r = some (.inl 1) ∧ σ' = σ ∧ ¬ ge_nz (jm_X (jm_N σ i) (jm_N σ j))) ∨ (r = some (.inl 0) ∧ σ' = σ ∧ ge_nz (jm_X (jm_N σ i) (jm_N σ j)))) := by
  refine jw_T_of (D := 0) (M := mm_234) rfl (Nat.le_of_ble_eq_true rfl) (ls0 := [some (.inr (.inr 103)), some (.inl i), some (.inl j), none, none]) rfl ?_ (by rintro _ _ (⟨rfl, -⟩ | ⟨rfl, -⟩) <;> rfl)
  have i0 := hN (3 * i) (by omega) (by omega)
  have i1 := hN (3 * i + 1) (by omega) (by omega)
  have i2 := hN (3 * i + 2) (by omega) (by omega)
  have j0 := hN (3 * j) (by omega) (by omega)
  have j1 := hN (3 * j + 1) (by omega) (by omega)
  have j2 := hN (3 * j + 2) (by omega) (by omega)
  have p01 := jm_m9 i0 j1
  have p02 := jm_m9 i0 j2
  have p10 := jm_m9 i1 j0
  have p12 := jm_m9 i1 j2
  have p20 := jm_m9 i2 j0
  have p21 := jm_m9 i2 j1
  refine jw_W_n 9 (i' := 9) (ls' := [some (.inr (.inr 103)), some (.inl i), some (.inl j), some (.inl (3 * i)), some (.inl (3 * j))]) (st' := [.inr (.inr 103)]) rfl ?_
  refine jw_W_gf rfl rfl rfl ?_
  show jw_W (js_S n) _ md_234 10 [some (.inr (.inr 103)), some (.inl i), some (.inl j), some (.inl (3 * i)), some (.inl (3 * j))] [.inr (.inr 131)] σ _
  refine jw_W_n 1 (i' := 11) (ls' := [some (.inr (.inr 103)), some (.inl i), some (.inl j), some (.inl (3 * i)), some (.inl (3 * j))]) (st' := [.inl (3 * i), .inr (.inr 131)]) rfl ?_
  refine jw_W_ia rfl rfl (by omega) (by omega) (by omega) ?_
  show jw_W (js_S n) _ md_234 12 [some (.inr (.inr 103)), some (.inl i), some (.inl j), some (.inl (3 * i)), some (.inl (3 * j))] [.inl (σ 131 (3 * i))] σ _
  refine jw_W_n 1 (i' := 13) (ls' := [some (.inr (.inr 103)), some (.inl i), some (.inl j), some (.inl (3 * i)), some (.inl (3 * j))]) (st' := [.inr (.inr 103), .inl (σ 131 (3 * i))]) rfl ?_
  refine jw_W_gf rfl rfl rfl ?_
  show jw_W (js_S n) _ md_234 14 [some (.inr (.inr 103)), some (.inl i), some (.inl j), some (.inl (3 * i)), some (.inl (3 * j))] [.inr (.inr 131), .inl (σ 131 (3 * i))] σ _
  refine jw_W_n 3 (i' := 17) (ls' := [some (.inr (.inr 103)), some (.inl i), some (.inl j), some (.inl (3 * i)), some (.inl (3 * j))]) (st' := [.inl ((3 * j) + 1), .inr (.inr 131), .inl (σ 131 (3 * i))]) rfl ?_
  refine jw_W_ia rfl rfl (by omega) (by omega) (by omega) ?_
  show jw_W (js_S n) _ md_234 18 [some (.inr (.inr 103)), some (.inl i), some (.inl j), some (.inl (3 * i)), some (.inl (3 * j))] [.inl (σ 131 ((3 * j) + 1)), .inl (σ 131 (3 * i))] σ _
  refine jw_W_n 2 (i' := 20) (ls' := [some (.inr (.inr 103)), some (.inl i), some (.inl j), some (.inl (3 * i)), some (.inl (3 * j))]) (st' := [.inr (.inr 103), .inl ((σ 131 (3 * i)) * (σ 131 ((3 * j) + 1)))]) rfl ?_
  refine jw_W_gf rfl rfl rfl ?_
  show jw_W (js_S n) _ md_234 21 [some (.inr (.inr 103)), some (.inl i), some (.inl j), some (.inl (3 * i)), some (.inl (3 * j))] [.inr (.inr 131), .inl ((σ 131 (3 * i)) * (σ 131 ((3 * j) + 1)))] σ _
  refine jw_W_n 3 (i' := 24) (ls' := [some (.inr (.inr 103)), some (.inl i), some (.inl j), some (.inl (3 * i)), some (.inl (3 * j))]) (st' := [.inl ((3 * i) + 1), .inr (.inr 131), .inl ((σ 131 (3 * i)) * (σ 131 ((3 * j) + 1)))]) rfl ?_
  refine jw_W_ia rfl rfl (by omega) (by omega) (by omega) ?_
  show jw_W (js_S n) _ md_234 25 [some (.inr (.inr 103)), some (.inl i), some (.inl j), some (.inl (3 * i)), some (.inl (3 * j))] [.inl (σ 131 ((3 * i) + 1)), .inl ((σ 131 (3 * i)) * (σ 131 ((3 * j) + 1)))] σ _
  refine jw_W_n 1 (i' := 26) (ls' := [some (.inr (.inr 103)), some (.inl i), some (.inl j), some (.inl (3 * i)), some (.inl (3 * j))]) (st' := [.inr (.inr 103), .inl (σ 131 ((3 * i) + 1)), .inl ((σ 131 (3 * i)) * (σ 131 ((3 * j) + 1)))]) rfl ?_
  refine jw_W_gf rfl rfl rfl ?_
  show jw_W (js_S n) _ md_234 27 [some (.inr (.inr 103)), some (.inl i), some (.inl j), some (.inl (3 * i)), some (.inl (3 * j))] [.inr (.inr 131), .inl (σ 131 ((3 * i) + 1)), .inl ((σ 131 (3 * i)) * (σ 131 ((3 * j) + 1)))] σ _
  refine jw_W_n 1 (i' := 28) (ls' := [some (.inr (.inr 103)), some (.inl i), some (.inl j), some (.inl (3 * i)), some (.inl (3 * j))]) (st' := [.inl (3 * j), .inr (.inr 131), .inl (σ 131 ((3 * i) + 1)), .inl ((σ 131 (3 * i)) * (σ 131 ((3 * j) + 1)))]) rfl ?_
  refine jw_W_ia rfl rfl (by omega) (by omega) (by omega) ?_
  show jw_W (js_S n) _ md_234 29 [some (.inr (.inr 103)), some (.inl i), some (.inl j), some (.inl (3 * i)), some (.inl (3 * j))] [.inl (σ 131 (3 * j)), .inl (σ 131 ((3 * i) + 1)), .inl ((σ 131 (3 * i)) * (σ 131 ((3 * j) + 1)))] σ _
  refine jw_W_n 1 (i' := 30) (ls' := [some (.inr (.inr 103)), some (.inl i), some (.inl j), some (.inl (3 * i)), some (.inl (3 * j))]) (st' := [.inl ((σ 131 ((3 * i) + 1)) * (σ 131 (3 * j))), .inl ((σ 131 (3 * i)) * (σ 131 ((3 * j) + 1)))]) rfl ?_
  refine jw_W_ic rfl (by unfold jw_rg; omega) (by unfold jw_rg; omega) (fun hc1 => ?_) (fun hc1 => ?_)
  · have hc1 : ((σ 131 (3 * i)) * (σ 131 ((3 * j) + 1))) ≠ ((σ 131 ((3 * i) + 1)) * (σ 131 (3 * j))) := hc1
    refine jw_W_n 1 (i' := 84) (ls' := [some (.inr (.inr 103)), some (.inl i), some (.inl j), some (.inl (3 * i)), some (.inl (3 * j))]) (st' := [.inl 0]) rfl ?_
    refine jw_W_ir rfl ?_
    exact .inr ⟨rfl, rfl, by simp only [jm_N, jm_X, ge_nz]; omega⟩
  · have hc1 : ¬ (((σ 131 (3 * i)) * (σ 131 ((3 * j) + 1))) ≠ ((σ 131 ((3 * i) + 1)) * (σ 131 (3 * j)))) := hc1
    refine jw_W_n 1 (i' := 32) (ls' := [some (.inr (.inr 103)), some (.inl i), some (.inl j), some (.inl (3 * i)), some (.inl (3 * j))]) (st' := [.inr (.inr 103)]) rfl ?_
    refine jw_W_gf rfl rfl rfl ?_
    show jw_W (js_S n) _ md_234 33 [some (.inr (.inr 103)), some (.inl i), some (.inl j), some (.inl (3 * i)), some (.inl (3 * j))] [.inr (.inr 131)] σ _
    refine jw_W_n 1 (i' := 34) (ls' := [some (.inr (.inr 103)), some (.inl i), some (.inl j), some (.inl (3 * i)), some (.inl (3 * j))]) (st' := [.inl (3 * i), .inr (.inr 131)]) rfl ?_
    refine jw_W_ia rfl rfl (by omega) (by omega) (by omega) ?_
    show jw_W (js_S n) _ md_234 35 [some (.inr (.inr 103)), some (.inl i), some (.inl j), some (.inl (3 * i)), some (.inl (3 * j))] [.inl (σ 131 (3 * i))] σ _
    refine jw_W_n 1 (i' := 36) (ls' := [some (.inr (.inr 103)), some (.inl i), some (.inl j), some (.inl (3 * i)), some (.inl (3 * j))]) (st' := [.inr (.inr 103), .inl (σ 131 (3 * i))]) rfl ?_
    refine jw_W_gf rfl rfl rfl ?_
    show jw_W (js_S n) _ md_234 37 [some (.inr (.inr 103)), some (.inl i), some (.inl j), some (.inl (3 * i)), some (.inl (3 * j))] [.inr (.inr 131), .inl (σ 131 (3 * i))] σ _
    refine jw_W_n 3 (i' := 40) (ls' := [some (.inr (.inr 103)), some (.inl i), some (.inl j), some (.inl (3 * i)), some (.inl (3 * j))]) (st' := [.inl ((3 * j) + 2), .inr (.inr 131), .inl (σ 131 (3 * i))]) rfl ?_
    refine jw_W_ia rfl rfl (by omega) (by omega) (by omega) ?_
    show jw_W (js_S n) _ md_234 41 [some (.inr (.inr 103)), some (.inl i), some (.inl j), some (.inl (3 * i)), some (.inl (3 * j))] [.inl (σ 131 ((3 * j) + 2)), .inl (σ 131 (3 * i))] σ _
    refine jw_W_n 2 (i' := 43) (ls' := [some (.inr (.inr 103)), some (.inl i), some (.inl j), some (.inl (3 * i)), some (.inl (3 * j))]) (st' := [.inr (.inr 103), .inl ((σ 131 (3 * i)) * (σ 131 ((3 * j) + 2)))]) rfl ?_
    refine jw_W_gf rfl rfl rfl ?_
    show jw_W (js_S n) _ md_234 44 [some (.inr (.inr 103)), some (.inl i), some (.inl j), some (.inl (3 * i)), some (.inl (3 * j))] [.inr (.inr 131), .inl ((σ 131 (3 * i)) * (σ 131 ((3 * j) + 2)))] σ _
    refine jw_W_n 3 (i' := 47) (ls' := [some (.inr (.inr 103)), some (.inl i), some (.inl j), some (.inl (3 * i)), some (.inl (3 * j))]) (st' := [.inl ((3 * i) + 2), .inr (.inr 131), .inl ((σ 131 (3 * i)) * (σ 131 ((3 * j) + 2)))]) rfl ?_
    refine jw_W_ia rfl rfl (by omega) (by omega) (by omega) ?_
    show jw_W (js_S n) _ md_234 48 [some (.inr (.inr 103)), some (.inl i), some (.inl j), some (.inl (3 * i)), some (.inl (3 * j))] [.inl (σ 131 ((3 * i) + 2)), .inl ((σ 131 (3 * i)) * (σ 131 ((3 * j) + 2)))] σ _
    refine jw_W_n 1 (i' := 49) (ls' := [some (.inr (.inr 103)), some (.inl i), some (.inl j), some (.inl (3 * i)), some (.inl (3 * j))]) (st' := [.inr (.inr 103), .inl (σ 131 ((3 * i) + 2)), .inl ((σ 131 (3 * i)) * (σ 131 ((3 * j) + 2)))]) rfl ?_
    refine jw_W_gf rfl rfl rfl ?_
    show jw_W (js_S n) _ md_234 50 [some (.inr (.inr 103)), some (.inl i), some (.inl j), some (.inl (3 * i)), some (.inl (3 * j))] [.inr (.inr 131), .inl (σ 131 ((3 * i) + 2)), .inl ((σ 131 (3 * i)) * (σ 131 ((3 * j) + 2)))] σ _
    refine jw_W_n 1 (i' := 51) (ls' := [some (.inr (.inr 103)), some (.inl i), some (.inl j), some (.inl (3 * i)), some (.inl (3 * j))]) (st' := [.inl (3 * j), .inr (.inr 131), .inl (σ 131 ((3 * i) + 2)), .inl ((σ 131 (3 * i)) * (σ 131 ((3 * j) + 2)))]) rfl ?_
    refine jw_W_ia rfl rfl (by omega) (by omega) (by omega) ?_
    show jw_W (js_S n) _ md_234 52 [some (.inr (.inr 103)), some (.inl i), some (.inl j), some (.inl (3 * i)), some (.inl (3 * j))] [.inl (σ 131 (3 * j)), .inl (σ 131 ((3 * i) + 2)), .inl ((σ 131 (3 * i)) * (σ 131 ((3 * j) + 2)))] σ _
    refine jw_W_n 1 (i' := 53) (ls' := [some (.inr (.inr 103)), some (.inl i), some (.inl j), some (.inl (3 * i)), some (.inl (3 * j))]) (st' := [.inl ((σ 131 ((3 * i) + 2)) * (σ 131 (3 * j))), .inl ((σ 131 (3 * i)) * (σ 131 ((3 * j) + 2)))]) rfl ?_
    refine jw_W_ic rfl (by unfold jw_rg; omega) (by unfold jw_rg; omega) (fun hc2 => ?_) (fun hc2 => ?_)
    · have hc2 : ((σ 131 (3 * i)) * (σ 131 ((3 * j) + 2))) ≠ ((σ 131 ((3 * i) + 2)) * (σ 131 (3 * j))) := hc2
      refine jw_W_n 1 (i' := 84) (ls' := [some (.inr (.inr 103)), some (.inl i), some (.inl j), some (.inl (3 * i)), some (.inl (3 * j))]) (st' := [.inl 0]) rfl ?_
      refine jw_W_ir rfl ?_
      exact .inr ⟨rfl, rfl, by simp only [jm_N, jm_X, ge_nz]; omega⟩
    · have hc2 : ¬ (((σ 131 (3 * i)) * (σ 131 ((3 * j) + 2))) ≠ ((σ 131 ((3 * i) + 2)) * (σ 131 (3 * j)))) := hc2
      refine jw_W_n 1 (i' := 55) (ls' := [some (.inr (.inr 103)), some (.inl i), some (.inl j), some (.inl (3 * i)), some (.inl (3 * j))]) (st' := [.inr (.inr 103)]) rfl ?_
      refine jw_W_gf rfl rfl rfl ?_
      show jw_W (js_S n) _ md_234 56 [some (.inr (.inr 103)), some (.inl i), some (.inl j), some (.inl (3 * i)), some (.inl (3 * j))] [.inr (.inr 131)] σ _
      refine jw_W_n 3 (i' := 59) (ls' := [some (.inr (.inr 103)), some (.inl i), some (.inl j), some (.inl (3 * i)), some (.inl (3 * j))]) (st' := [.inl ((3 * i) + 1), .inr (.inr 131)]) rfl ?_
      refine jw_W_ia rfl rfl (by omega) (by omega) (by omega) ?_
      show jw_W (js_S n) _ md_234 60 [some (.inr (.inr 103)), some (.inl i), some (.inl j), some (.inl (3 * i)), some (.inl (3 * j))] [.inl (σ 131 ((3 * i) + 1))] σ _
      refine jw_W_n 1 (i' := 61) (ls' := [some (.inr (.inr 103)), some (.inl i), some (.inl j), some (.inl (3 * i)), some (.inl (3 * j))]) (st' := [.inr (.inr 103), .inl (σ 131 ((3 * i) + 1))]) rfl ?_
      refine jw_W_gf rfl rfl rfl ?_
      show jw_W (js_S n) _ md_234 62 [some (.inr (.inr 103)), some (.inl i), some (.inl j), some (.inl (3 * i)), some (.inl (3 * j))] [.inr (.inr 131), .inl (σ 131 ((3 * i) + 1))] σ _
      refine jw_W_n 3 (i' := 65) (ls' := [some (.inr (.inr 103)), some (.inl i), some (.inl j), some (.inl (3 * i)), some (.inl (3 * j))]) (st' := [.inl ((3 * j) + 2), .inr (.inr 131), .inl (σ 131 ((3 * i) + 1))]) rfl ?_
      refine jw_W_ia rfl rfl (by omega) (by omega) (by omega) ?_
      show jw_W (js_S n) _ md_234 66 [some (.inr (.inr 103)), some (.inl i), some (.inl j), some (.inl (3 * i)), some (.inl (3 * j))] [.inl (σ 131 ((3 * j) + 2)), .inl (σ 131 ((3 * i) + 1))] σ _
      refine jw_W_n 2 (i' := 68) (ls' := [some (.inr (.inr 103)), some (.inl i), some (.inl j), some (.inl (3 * i)), some (.inl (3 * j))]) (st' := [.inr (.inr 103), .inl ((σ 131 ((3 * i) + 1)) * (σ 131 ((3 * j) + 2)))]) rfl ?_
      refine jw_W_gf rfl rfl rfl ?_
      show jw_W (js_S n) _ md_234 69 [some (.inr (.inr 103)), some (.inl i), some (.inl j), some (.inl (3 * i)), some (.inl (3 * j))] [.inr (.inr 131), .inl ((σ 131 ((3 * i) + 1)) * (σ 131 ((3 * j) + 2)))] σ _
      refine jw_W_n 3 (i' := 72) (ls' := [some (.inr (.inr 103)), some (.inl i), some (.inl j), some (.inl (3 * i)), some (.inl (3 * j))]) (st' := [.inl ((3 * i) + 2), .inr (.inr 131), .inl ((σ 131 ((3 * i) + 1)) * (σ 131 ((3 * j) + 2)))]) rfl ?_
      refine jw_W_ia rfl rfl (by omega) (by omega) (by omega) ?_
      show jw_W (js_S n) _ md_234 73 [some (.inr (.inr 103)), some (.inl i), some (.inl j), some (.inl (3 * i)), some (.inl (3 * j))] [.inl (σ 131 ((3 * i) + 2)), .inl ((σ 131 ((3 * i) + 1)) * (σ 131 ((3 * j) + 2)))] σ _
      refine jw_W_n 1 (i' := 74) (ls' := [some (.inr (.inr 103)), some (.inl i), some (.inl j), some (.inl (3 * i)), some (.inl (3 * j))]) (st' := [.inr (.inr 103), .inl (σ 131 ((3 * i) + 2)), .inl ((σ 131 ((3 * i) + 1)) * (σ 131 ((3 * j) + 2)))]) rfl ?_
      refine jw_W_gf rfl rfl rfl ?_
      show jw_W (js_S n) _ md_234 75 [some (.inr (.inr 103)), some (.inl i), some (.inl j), some (.inl (3 * i)), some (.inl (3 * j))] [.inr (.inr 131), .inl (σ 131 ((3 * i) + 2)), .inl ((σ 131 ((3 * i) + 1)) * (σ 131 ((3 * j) + 2)))] σ _
      refine jw_W_n 3 (i' := 78) (ls' := [some (.inr (.inr 103)), some (.inl i), some (.inl j), some (.inl (3 * i)), some (.inl (3 * j))]) (st' := [.inl ((3 * j) + 1), .inr (.inr 131), .inl (σ 131 ((3 * i) + 2)), .inl ((σ 131 ((3 * i) + 1)) * (σ 131 ((3 * j) + 2)))]) rfl ?_
      refine jw_W_ia rfl rfl (by omega) (by omega) (by omega) ?_
      show jw_W (js_S n) _ md_234 79 [some (.inr (.inr 103)), some (.inl i), some (.inl j), some (.inl (3 * i)), some (.inl (3 * j))] [.inl (σ 131 ((3 * j) + 1)), .inl (σ 131 ((3 * i) + 2)), .inl ((σ 131 ((3 * i) + 1)) * (σ 131 ((3 * j) + 2)))] σ _
      refine jw_W_n 1 (i' := 80) (ls' := [some (.inr (.inr 103)), some (.inl i), some (.inl j), some (.inl (3 * i)), some (.inl (3 * j))]) (st' := [.inl ((σ 131 ((3 * i) + 2)) * (σ 131 ((3 * j) + 1))), .inl ((σ 131 ((3 * i) + 1)) * (σ 131 ((3 * j) + 2)))]) rfl ?_
      refine jw_W_ic rfl (by unfold jw_rg; omega) (by unfold jw_rg; omega) (fun hc3 => ?_) (fun hc3 => ?_)
      · have hc3 : ((σ 131 ((3 * i) + 1)) * (σ 131 ((3 * j) + 2))) ≠ ((σ 131 ((3 * i) + 2)) * (σ 131 ((3 * j) + 1))) := hc3
        refine jw_W_n 1 (i' := 84) (ls' := [some (.inr (.inr 103)), some (.inl i), some (.inl j), some (.inl (3 * i)), some (.inl (3 * j))]) (st' := [.inl 0]) rfl ?_
        refine jw_W_ir rfl ?_
        exact .inr ⟨rfl, rfl, by simp only [jm_N, jm_X, ge_nz]; omega⟩
      · have hc3 : ¬ (((σ 131 ((3 * i) + 1)) * (σ 131 ((3 * j) + 2))) ≠ ((σ 131 ((3 * i) + 2)) * (σ 131 ((3 * j) + 1)))) := hc3
        refine jw_W_n 2 (i' := 84) (ls' := [some (.inr (.inr 103)), some (.inl i), some (.inl j), some (.inl (3 * i)), some (.inl (3 * j))]) (st' := [.inl 1]) rfl ?_
        refine jw_W_ir rfl ?_
        exact .inl ⟨rfl, rfl, by simp only [jm_N, jm_X, ge_nz]; omega⟩

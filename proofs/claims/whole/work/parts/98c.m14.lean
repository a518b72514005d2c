/-! ===== the reference's wishes at points ===== -/
def jm_W (σ : jw_H) (k : Int) : ge_D := (σ 104 (3 * k), σ 104 (3 * k + 1), σ 104 (3 * k + 2))
/-- all wishes together, the first k -/
def jm_aw (σ : jw_H) (v : ge_R) : Nat → Int
  | 0 => 0
  | k + 1 => jm_aw σ v k + ge_f (jm_W σ (k : Int)) v
theorem jm_wished {n : Nat} {σ : jw_H} {k x y z : Int} (hP : jm_Pb σ) (k0 : 0 ≤ k) (k1 : k < σ 103 4) : jw_T (js_S n) 1 247 [.inr (.inr 103), .inl k, .inr (.inl x), .inr (.inl y), .inr (.inl z)] σ (fun r σ' => r = some (.inr (.inl (σ 104 (3 * k) * x + σ 104 (3 * k + 1) * y + σ 104 (3 * k + 2) * z))) ∧ σ' = σ) := by
  refine jw_T_of (D := 0) (M := mm_247) rfl (Nat.le_of_ble_eq_true rfl) (ls0 := [some (.inr (.inr 103)), some (.inl k), some (.inr (.inl x)), none, some (.inr (.inl y)), none, some (.inr (.inl z)), none]) rfl ?_ (by rintro _ _ ⟨rfl, -⟩; rfl)
  obtain ⟨⟨pq1, pq2⟩, ⟨pw1, pw2⟩, -, -, -, hPw⟩ := id hP
  have hw := hPw k k0 k1
  have c0 := hw 0 (by omega) (by omega)
  have c1 := hw 1 (by omega) (by omega)
  have c2 := hw 2 (by omega) (by omega)
  rw [Int.add_zero] at c0
  refine jw_W_n 1 (i' := 1) (ls' := [some (.inr (.inr 103)), some (.inl k), some (.inr (.inl x)), none, some (.inr (.inl y)), none, some (.inr (.inl z)), none]) (st' := [.inr (.inr 103)]) rfl ?_
  refine jw_W_gf rfl rfl rfl ?_
  show jw_W (js_S n) _ md_247 2 [some (.inr (.inr 103)), some (.inl k), some (.inr (.inl x)), none, some (.inr (.inl y)), none, some (.inr (.inl z)), none] [.inr (.inr 104)] σ _
  refine jw_W_n 3 (i' := 5) (ls' := [some (.inr (.inr 103)), some (.inl k), some (.inr (.inl x)), none, some (.inr (.inl y)), none, some (.inr (.inl z)), none]) (st' := [.inl (3 * k), .inr (.inr 104)]) rfl ?_
  refine jw_W_ia rfl rfl (by omega) (by omega) (by omega) ?_
  show jw_W (js_S n) _ md_247 6 [some (.inr (.inr 103)), some (.inl k), some (.inr (.inl x)), none, some (.inr (.inl y)), none, some (.inr (.inl z)), none] [.inl (σ 104 (3 * k))] σ _
  refine jw_W_i2l rfl (by unfold jw_rg; omega) ?_
  refine jw_W_n 3 (i' := 10) (ls' := [some (.inr (.inr 103)), some (.inl k), some (.inr (.inl x)), none, some (.inr (.inl y)), none, some (.inr (.inl z)), none]) (st' := [.inr (.inr 103), .inr (.inl ((σ 104 (3 * k)) * x))]) rfl ?_
  refine jw_W_gf rfl rfl rfl ?_
  show jw_W (js_S n) _ md_247 11 [some (.inr (.inr 103)), some (.inl k), some (.inr (.inl x)), none, some (.inr (.inl y)), none, some (.inr (.inl z)), none] [.inr (.inr 104), .inr (.inl ((σ 104 (3 * k)) * x))] σ _
  refine jw_W_n 5 (i' := 16) (ls' := [some (.inr (.inr 103)), some (.inl k), some (.inr (.inl x)), none, some (.inr (.inl y)), none, some (.inr (.inl z)), none]) (st' := [.inl ((3 * k) + 1), .inr (.inr 104), .inr (.inl ((σ 104 (3 * k)) * x))]) rfl ?_
  refine jw_W_ia rfl rfl (by omega) (by omega) (by omega) ?_
  show jw_W (js_S n) _ md_247 17 [some (.inr (.inr 103)), some (.inl k), some (.inr (.inl x)), none, some (.inr (.inl y)), none, some (.inr (.inl z)), none] [.inl (σ 104 ((3 * k) + 1)), .inr (.inl ((σ 104 (3 * k)) * x))] σ _
  refine jw_W_i2l rfl (by unfold jw_rg; omega) ?_
  refine jw_W_n 4 (i' := 22) (ls' := [some (.inr (.inr 103)), some (.inl k), some (.inr (.inl x)), none, some (.inr (.inl y)), none, some (.inr (.inl z)), none]) (st' := [.inr (.inr 103), .inr (.inl (((σ 104 (3 * k)) * x) + ((σ 104 ((3 * k) + 1)) * y)))]) rfl ?_
  refine jw_W_gf rfl rfl rfl ?_
  show jw_W (js_S n) _ md_247 23 [some (.inr (.inr 103)), some (.inl k), some (.inr (.inl x)), none, some (.inr (.inl y)), none, some (.inr (.inl z)), none] [.inr (.inr 104), .inr (.inl (((σ 104 (3 * k)) * x) + ((σ 104 ((3 * k) + 1)) * y)))] σ _
  refine jw_W_n 5 (i' := 28) (ls' := [some (.inr (.inr 103)), some (.inl k), some (.inr (.inl x)), none, some (.inr (.inl y)), none, some (.inr (.inl z)), none]) (st' := [.inl ((3 * k) + 2), .inr (.inr 104), .inr (.inl (((σ 104 (3 * k)) * x) + ((σ 104 ((3 * k) + 1)) * y)))]) rfl ?_
  refine jw_W_ia rfl rfl (by omega) (by omega) (by omega) ?_
  show jw_W (js_S n) _ md_247 29 [some (.inr (.inr 103)), some (.inl k), some (.inr (.inl x)), none, some (.inr (.inl y)), none, some (.inr (.inl z)), none] [.inl (σ 104 ((3 * k) + 2)), .inr (.inl (((σ 104 (3 * k)) * x) + ((σ 104 ((3 * k) + 1)) * y)))] σ _
  refine jw_W_i2l rfl (by unfold jw_rg; omega) ?_
  refine jw_W_n 3 (i' := 33) (ls' := [some (.inr (.inr 103)), some (.inl k), some (.inr (.inl x)), none, some (.inr (.inl y)), none, some (.inr (.inl z)), none]) (st' := [.inr (.inl ((((σ 104 (3 * k)) * x) + ((σ 104 ((3 * k) + 1)) * y)) + ((σ 104 ((3 * k) + 2)) * z)))]) rfl ?_
  refine jw_W_lr rfl ?_
  exact ⟨rfl, rfl⟩
theorem jm_wishedAt {n : Nat} {σ : jw_H} {k p : Int} (hP : jm_Pb σ) (k0 : 0 ≤ k) (k1 : k < σ 103 4) (p0 : 0 ≤ p) (p1 : p < 64) : jw_T (js_S n) 2 248 [.inr (.inr 103), .inl k, .inl p] σ (fun r σ' => r = some (.inr (.inl (ge_f (jm_W σ k) (jm_pt σ p)))) ∧ σ' = σ) := by
  refine jw_T_of (D := 1) (M := mm_248) rfl (Nat.le_of_ble_eq_true rfl) (ls0 := [some (.inr (.inr 103)), some (.inl k), some (.inl p)]) rfl ?_ (by rintro _ _ ⟨rfl, -⟩; rfl)
  have pw := hP.2.1
  refine jw_W_n 3 (i' := 3) (ls' := [some (.inr (.inr 103)), some (.inl k), some (.inl p)]) (st' := [.inr (.inr 103), .inl k, .inr (.inr 103)]) rfl ?_
  refine jw_W_gf rfl rfl rfl ?_
  show jw_W (js_S n) _ md_248 4 [some (.inr (.inr 103)), some (.inl k), some (.inl p)] [.inr (.inr 125), .inl k, .inr (.inr 103)] σ _
  refine jw_W_n 1 (i' := 5) (ls' := [some (.inr (.inr 103)), some (.inl k), some (.inl p)]) (st' := [.inl p, .inr (.inr 125), .inl k, .inr (.inr 103)]) rfl ?_
  refine jw_W_la rfl rfl (by omega) (by omega) (by omega) ?_
  show jw_W (js_S n) _ md_248 6 [some (.inr (.inr 103)), some (.inl k), some (.inl p)] [.inr (.inl (σ 125 p)), .inl k, .inr (.inr 103)] σ _
  refine jw_W_n 1 (i' := 7) (ls' := [some (.inr (.inr 103)), some (.inl k), some (.inl p)]) (st' := [.inr (.inr 103), .inr (.inl (σ 125 p)), .inl k, .inr (.inr 103)]) rfl ?_
  refine jw_W_gf rfl rfl rfl ?_
  show jw_W (js_S n) _ md_248 8 [some (.inr (.inr 103)), some (.inl k), some (.inl p)] [.inr (.inr 126), .inr (.inl (σ 125 p)), .inl k, .inr (.inr 103)] σ _
  refine jw_W_n 1 (i' := 9) (ls' := [some (.inr (.inr 103)), some (.inl k), some (.inl p)]) (st' := [.inl p, .inr (.inr 126), .inr (.inl (σ 125 p)), .inl k, .inr (.inr 103)]) rfl ?_
  refine jw_W_la rfl rfl (by omega) (by omega) (by omega) ?_
  show jw_W (js_S n) _ md_248 10 [some (.inr (.inr 103)), some (.inl k), some (.inl p)] [.inr (.inl (σ 126 p)), .inr (.inl (σ 125 p)), .inl k, .inr (.inr 103)] σ _
  refine jw_W_n 1 (i' := 11) (ls' := [some (.inr (.inr 103)), some (.inl k), some (.inl p)]) (st' := [.inr (.inr 103), .inr (.inl (σ 126 p)), .inr (.inl (σ 125 p)), .inl k, .inr (.inr 103)]) rfl ?_
  refine jw_W_gf rfl rfl rfl ?_
  show jw_W (js_S n) _ md_248 12 [some (.inr (.inr 103)), some (.inl k), some (.inl p)] [.inr (.inr 127), .inr (.inl (σ 126 p)), .inr (.inl (σ 125 p)), .inl k, .inr (.inr 103)] σ _
  refine jw_W_n 1 (i' := 13) (ls' := [some (.inr (.inr 103)), some (.inl k), some (.inl p)]) (st' := [.inl p, .inr (.inr 127), .inr (.inl (σ 126 p)), .inr (.inl (σ 125 p)), .inl k, .inr (.inr 103)]) rfl ?_
  refine jw_W_la rfl rfl (by omega) (by omega) (by omega) ?_
  show jw_W (js_S n) _ md_248 14 [some (.inr (.inr 103)), some (.inl k), some (.inl p)] [.inr (.inl (σ 127 p)), .inr (.inl (σ 126 p)), .inr (.inl (σ 125 p)), .inl k, .inr (.inr 103)] σ _
  refine jw_W_call (as := [.inr (.inr 103), .inl k, .inr (.inl (σ 125 p)), .inr (.inl (σ 126 p)), .inr (.inl (σ 127 p))]) (rest := []) rfl rfl rfl rfl (Nat.le_of_ble_eq_true rfl) (.inr rfl) (jm_wished hP k0 k1) (by omega) ?_ rfl
  rintro r1 σ1 ⟨rfl, hs⟩
  rw [hs]
  show jw_W (js_S n) _ md_248 15 [some (.inr (.inr 103)), some (.inl k), some (.inl p)] [.inr (.inl (ge_f (jm_W σ k) (jm_pt σ p)))] σ _
  refine jw_W_lr rfl ?_
  exact ⟨rfl, rfl⟩
theorem jm_allWished_loop {n : Nat} {σ : jw_H} {p : Int} (hP : jm_Pb σ) (p0 : 0 ≤ p) (p1 : p < 64) : ∀ (f : Nat) {k s : Int}, 0 ≤ k → k + f = σ 103 4 → s = jm_aw σ (jm_pt σ p) k.toNat → jw_W (js_S n) 2 md_250 4 [some (.inr (.inr 103)), some (.inl p), some (.inr (.inl s)), none, some (.inl k)] [] σ (fun r σ' => r = some (.inr (.inl (jm_aw σ (jm_pt σ p) (σ 103 4).toNat))) ∧ σ' = σ)
  | f, k, s, k0, hk, hs0 => by
    have ih : ∀ {s' : Int}, k < σ 103 4 → s' = jm_aw σ (jm_pt σ p) (k + 1).toNat → jw_W (js_S n) 2 md_250 4 [some (.inr (.inr 103)), some (.inl p), some (.inr (.inl s')), none, some (.inl (k + 1))] [] σ (fun r σ' => r = some (.inr (.inl (jm_aw σ (jm_pt σ p) (σ 103 4).toNat))) ∧ σ' = σ) := by
      intro s' h1 h2
      match f, hk with
      | 0, hk => omega
      | f + 1, hk => exact jm_allWished_loop hP p0 p1 f (by omega) (by omega) h2
    have pw := hP.2.1
    refine jw_W_n 2 (i' := 6) (ls' := [some (.inr (.inr 103)), some (.inl p), some (.inr (.inl s)), none, some (.inl k)]) (st' := [.inr (.inr 103), .inl k]) rfl ?_
    refine jw_W_gf rfl rfl rfl ?_
    show jw_W (js_S n) _ md_250 7 [some (.inr (.inr 103)), some (.inl p), some (.inr (.inl s)), none, some (.inl k)] [.inl (σ 103 4), .inl k] σ _
    refine jw_W_ic rfl (by unfold jw_rg; omega) (by unfold jw_rg; omega) (fun hc1 => ?_) (fun hc1 => ?_)
    · have hc1 : k ≥ (σ 103 4) := hc1
      refine jw_W_n 1 (i' := 18) (ls' := [some (.inr (.inr 103)), some (.inl p), some (.inr (.inl s)), none, some (.inl k)]) (st' := [.inr (.inl s)]) rfl ?_
      refine jw_W_lr rfl ?_
      have hkl : k = σ 103 4 := by omega
      subst hkl
      exact ⟨by rw [hs0], rfl⟩
    · have hc1 : ¬ (k ≥ (σ 103 4)) := hc1
      refine jw_W_n 4 (i' := 12) (ls' := [some (.inr (.inr 103)), some (.inl p), some (.inr (.inl s)), none, some (.inl k)]) (st' := [.inl p, .inl k, .inr (.inr 103), .inr (.inl s)]) rfl ?_
      refine jw_W_call (as := [.inr (.inr 103), .inl k, .inl p]) (rest := [.inr (.inl s)]) rfl rfl rfl rfl (Nat.le_of_ble_eq_true rfl) (.inr rfl) (jm_wishedAt hP k0 (by omega) p0 p1) (by omega) ?_ rfl
      rintro r1 σ1 ⟨rfl, hs⟩
      rw [hs]
      show jw_W (js_S n) _ md_250 13 [some (.inr (.inr 103)), some (.inl p), some (.inr (.inl s)), none, some (.inl k)] [.inr (.inl (ge_f (jm_W σ k) (jm_pt σ p))), .inr (.inl s)] σ _
      refine jw_W_n 4 (i' := 4) (ls' := [some (.inr (.inr 103)), some (.inl p), some (.inr (.inl (s + (ge_f (jm_W σ k) (jm_pt σ p))))), none, some (.inl (k + 1))]) (st' := []) rfl ?_
      exact ih (by omega) (by rw [hs0, show (k + 1).toNat = k.toNat + 1 by omega]; show _ = jm_aw σ (jm_pt σ p) k.toNat + ge_f (jm_W σ ((k.toNat : Nat) : Int)) (jm_pt σ p); rw [Int.toNat_of_nonneg k0])
theorem jm_allWished {n : Nat} {σ : jw_H} {p : Int} (hP : jm_Pb σ) (p0 : 0 ≤ p) (p1 : p < 64) : jw_T (js_S n) 3 250 [.inr (.inr 103), .inl p] σ (fun r σ' => r = some (.inr (.inl (jm_aw σ (jm_pt σ p) (σ 103 4).toNat))) ∧ σ' = σ) := by
  refine jw_T_of (D := 2) (M := mm_250) rfl (Nat.le_of_ble_eq_true rfl) (ls0 := [some (.inr (.inr 103)), some (.inl p), none, none, none]) rfl ?_ (by rintro _ _ ⟨rfl, -⟩; rfl)
  refine jw_W_n 4 (i' := 4) (ls' := [some (.inr (.inr 103)), some (.inl p), some (.inr (.inl 0)), none, some (.inl 0)]) (st' := []) rfl ?_
  exact jm_allWished_loop hP p0 p1 (σ 103 4).toNat (k := 0) (by omega) (by have := hP.2.1; omega) rfl
def jm_F (σ : jw_H) : List ge_D := (List.range (σ 103 4).toNat).map (fun (k : Nat) => jm_W σ (k : Int))
theorem ge_sum_app (F G : List ge_D) (v : ge_R) : ge_f (ge_sum (F ++ G)) v = ge_f (ge_sum F) v + ge_f (ge_sum G) v := by
  induction F with
  | nil =>
    show ge_f (ge_sum G) v = ge_f (ge_sum []) v + _
    simp only [ge_sum, ge_f, List.foldr_nil]
    grind
  | cons f F ih =>
    rw [List.cons_append, ge_sum_c, ge_sum_c, ih]
    omega
theorem jm_aw_sum (σ : jw_H) (v : ge_R) : ∀ k : Nat, jm_aw σ v k = ge_f (ge_sum ((List.range k).map (fun (k : Nat) => jm_W σ (k : Int)))) v
  | 0 => by
    simp only [jm_aw, List.range_zero, List.map_nil, ge_sum, ge_f, List.foldr_nil]
    grind
  | k + 1 => by
    rw [List.range_succ, List.map_append, ge_sum_app]
    show jm_aw σ v k + _ = _
    rw [jm_aw_sum σ v k]
    congr 1
    rw [List.map_cons, List.map_nil, ge_sum_c]
    simp only [ge_sum, ge_f, List.foldr_nil]
    grind
theorem jm_F_mem {σ : jw_H} {f : ge_D} (h : f ∈ jm_F σ) : ∃ k : Int, 0 ≤ k ∧ k < σ 103 4 ∧ f = jm_W σ k := by
  unfold jm_F at h
  obtain ⟨k, hk, rfl⟩ := List.mem_map.mp h
  have := List.mem_range.mp hk
  exact ⟨(k : Int), by omega, by omega, rfl⟩
theorem jm_W_sm {σ : jw_H} (hP : jm_Pb σ) {k : Int} (k0 : 0 ≤ k) (k1 : k < σ 103 4) : (-3 ≤ (jm_W σ k).1 ∧ (jm_W σ k).1 ≤ 3) ∧ (-3 ≤ (jm_W σ k).2.1 ∧ (jm_W σ k).2.1 ≤ 3) ∧ (-3 ≤ (jm_W σ k).2.2 ∧ (jm_W σ k).2.2 ≤ 3) := by
  obtain ⟨-, -, -, -, -, hPw⟩ := hP
  have hw := hPw k k0 k1
  have c0 := hw 0 (by omega) (by omega)
  have c1 := hw 1 (by omega) (by omega)
  have c2 := hw 2 (by omega) (by omega)
  rw [Int.add_zero] at c0
  exact ⟨⟨c0.1, c0.2.1⟩, ⟨c1.1, c1.2.1⟩, ⟨c2.1, c2.2.1⟩⟩
theorem jm_f_bd {f : ge_D} {v : ge_R} {X : Int} (hf : (-3 ≤ f.1 ∧ f.1 ≤ 3) ∧ (-3 ≤ f.2.1 ∧ f.2.1 ≤ 3) ∧ (-3 ≤ f.2.2 ∧ f.2.2 ≤ 3)) (hv : jm_in4 X v) : -(9 * X) ≤ ge_f f v ∧ ge_f f v ≤ 9 * X := by
  obtain ⟨⟨x0, x1⟩, ⟨y0, y1⟩, ⟨z0, z1⟩, -⟩ := hv
  have h1 := ge_m3 hf.1.1 hf.1.2 (x := v.1) (k := X) (by omega) x1
  have h2 := ge_m3 hf.2.1.1 hf.2.1.2 (x := v.2.1) (k := X) (by omega) y1
  have h3 := ge_m3 hf.2.2.1 hf.2.2.2 (x := v.2.2.1) (k := X) (by omega) z1
  simp only [ge_f]
  omega
theorem jm_aw_bd {σ : jw_H} (hP : jm_Pb σ) {v : ge_R} {X : Int} (hv : jm_in4 X v) : ∀ k : Nat, (k : Int) ≤ σ 103 4 → -(9 * X * k) ≤ jm_aw σ v k ∧ jm_aw σ v k ≤ 9 * X * k
  | 0, _ => by
    simp only [jm_aw]
    omega
  | k + 1, hk => by
    have ih := jm_aw_bd hP hv k (by omega)
    have h := jm_f_bd (jm_W_sm hP (k := (k : Int)) (by omega) (by omega)) hv
    simp only [jm_aw]
    have e : 9 * X * ((k + 1 : Nat) : Int) = 9 * X * (k : Int) + 9 * X := by grind
    rw [e]
    omega

/-! ===== the reference's plans ===== -/
/-- a plan's numbers -/
def jm_ip (σ : jw_H) (x y z : Int) : Prop := (0 ≤ x ∧ x ≤ 9) ∧ ((0 ≤ y ∧ y ≤ 9) ∧ (σ 103 3 ≤ 1 → y = 0)) ∧ ((0 ≤ z ∧ z ≤ 9) ∧ (σ 103 3 ≤ 2 → z = 0))
def jm_su (σ : jw_H) (k x y z : Int) : Int := σ 105 (5 * k) * x + σ 105 (5 * k + 1) * y + σ 105 (5 * k + 2) * z - σ 105 (5 * k + 3)
def jm_ok (σ : jw_H) (k x y z : Int) : Prop := (σ 105 (5 * k + 4) = 1 → 0 ≤ jm_su σ k x y z) ∧ (σ 105 (5 * k + 4) ≠ 1 → jm_su σ k x y z ≤ 0)
def jm_bx1 (σ : jw_H) (x y z : Int) : Prop := x ≤ σ 106 0 ∧ (2 ≤ σ 103 3 → y ≤ σ 106 1) ∧ (3 ≤ σ 103 3 → z ≤ σ 106 2)
theorem jm_ok_s {σ : jw_H} {k x y z : Int} : jm_ok σ k x y z ↔ ge_s (jm_kr σ k 0) (x, y, z, 1) ≤ 0 := by
  have e : ge_s (jm_kr σ k 0) (x, y, z, 1) = jm_sg σ k * jm_su σ k x y z := by
    simp only [ge_s, jm_kr, jm_su]
    grind
  rw [e]
  unfold jm_ok jm_sg
  by_cases h : σ 105 (5 * k + 4) = 1
  · rw [if_pos h]
    omega
  · rw [if_neg h]
    omega
theorem jm_allowed {σ : jw_H} {x y z : Int} (hP : jm_Pb σ) (hi : jm_ip σ x y z) : ge_F (jm_RR (σ 103 3) (jm_bA σ)) (x, y, z, 1) ↔ jm_bx1 σ x y z ∧ ∀ k, 0 ≤ k → k < σ 103 5 → jm_ok σ k x y z := by
  obtain ⟨⟨x0, x1⟩, ⟨⟨y0, y1⟩, y2⟩, ⟨⟨z0, z1⟩, z2⟩⟩ := hi
  obtain ⟨⟨q1, q2⟩, -, ⟨k1, k2⟩, -⟩ := hP
  have row : ∀ r, r ∈ jm_RR (σ 103 3) (jm_bA σ) ↔ ((∃ k : Int, 0 ≤ k ∧ k < σ 103 5 ∧ r = jm_kr σ k 0) ∨ (∃ i : Nat, (i : Int) < σ 103 3 ∧ (r = jm_lo i ∨ r = jm_hi i (jm_Bs σ i))) ∨ r ∈ jm_vr (σ 103 3)) := fun r => by
    unfold jm_RR jm_bA
    rw [List.mem_append, List.mem_map]
    constructor
    · rintro (⟨⟨b, t⟩, hz, rfl⟩ | h)
      · rcases jm_bk_mem.mp hz with ⟨h1, h2, h3⟩ | h
        · rw [if_neg h2] at h3
          exact .inl ⟨(b : Int), by omega, by omega, h3⟩
        · obtain ⟨i, hi, ⟨-, h⟩ | ⟨-, h⟩⟩ := jm_be_mem.mp h
          · exact .inr (.inl ⟨i, by omega, .inl h⟩)
          · exact .inr (.inl ⟨i, by omega, .inr h⟩)
      · exact .inr (.inr h)
    · rintro (⟨k, k0, k3, rfl⟩ | ⟨i, hi, h⟩ | h)
      · refine .inl ⟨(k.toNat, jm_kr σ k 0), jm_bk_mem.mpr (.inl ⟨by omega, by omega, ?_⟩), rfl⟩
        rw [Int.toNat_of_nonneg k0, if_neg (by omega)]
      · rcases h with h | h
        · exact .inl ⟨(_, r), jm_bk_mem.mpr (.inr (jm_be_mem.mpr ⟨i, by omega, .inl ⟨rfl, h⟩⟩)), rfl⟩
        · exact .inl ⟨(_, r), jm_bk_mem.mpr (.inr (jm_be_mem.mpr ⟨i, by omega, .inr ⟨rfl, h⟩⟩)), rfl⟩
      · exact .inr h
  constructor
  · rintro ⟨-, h⟩
    have hh : ∀ i : Nat, (i : Int) < σ 103 3 → ge_s (jm_hi i (jm_Bs σ i)) (x, y, z, 1) ≤ 0 := fun i hi => h _ ((row _).mpr (.inr (.inl ⟨i, hi, .inr rfl⟩)))
    refine ⟨⟨?_, fun hq => ?_, fun hq => ?_⟩, fun k k0 k3 => jm_ok_s.mpr (h _ ((row _).mpr (.inl ⟨k, k0, k3, rfl⟩)))⟩
    · have := hh 0 (by omega)
      simp [ge_s, jm_hi, jm_ei, jm_Bs] at this
      omega
    · have := hh 1 (by omega)
      simp [ge_s, jm_hi, jm_ei, jm_Bs] at this
      omega
    · have := hh 2 (by omega)
      simp [ge_s, jm_hi, jm_ei, jm_Bs] at this
      omega
  · rintro ⟨⟨h1, h2, h3⟩, hk⟩
    refine ⟨by show (0 : Int) < 1; omega, fun r hr => ?_⟩
    rcases (row r).mp hr with ⟨k, k0, k3, rfl⟩ | ⟨i, hi, h⟩ | h
    · exact jm_ok_s.mp (hk k k0 k3)
    · have i3 : i = 0 ∨ i = 1 ∨ i = 2 := by omega
      rcases i3 with rfl | rfl | rfl <;> rcases h with rfl | rfl <;> simp [ge_s, jm_lo, jm_hi, jm_ei, jm_Bs] <;> omega
    · have hz : σ 103 3 ≤ 2 → z = 0 := z2
      have hy : σ 103 3 ≤ 1 → y = 0 := y2
      unfold jm_vr at h
      rcases List.mem_append.mp h with h | h
      · by_cases hq : σ 103 3 ≤ 2
        · rw [if_pos hq] at h
          have := hz hq
          simp only [List.mem_cons, List.not_mem_nil, or_false] at h
          rcases h with rfl | rfl <;> simp only [ge_s] <;> omega
        · rw [if_neg hq] at h
          exact absurd h List.not_mem_nil
      · by_cases hq : σ 103 3 ≤ 1
        · rw [if_pos hq] at h
          have := hy hq
          simp only [List.mem_cons, List.not_mem_nil, or_false] at h
          rcases h with rfl | rfl <;> simp only [ge_s] <;> omega
        · rw [if_neg hq] at h
          exact absurd h List.not_mem_nil
theorem jm_isPlan {n : Nat} {σ : jw_H} {x y z : Int} (hP : jm_Pb σ) (hx : jw_rg x) (hy : jw_rg y) (hz : jw_rg z) : jw_T (js_S n) 2 302 [.inr (.inr 103), .inl x, .inl y, .inl z] σ (fun r σ' => (r = some (.inl 1) ∧ σ' = σ ∧ jm_ip σ x y z) ∨ (r = some (.inl 0) ∧ σ' = σ ∧ ¬ jm_ip σ x y z)) := by
  refine jw_T_of (D := 1) (M := mm_302) rfl (Nat.le_of_ble_eq_true rfl) (ls0 := [some (.inr (.inr 103)), some (.inl x), some (.inl y), some (.inl z)]) rfl ?_ (by rintro _ _ (⟨rfl, -⟩ | ⟨rfl, -⟩) <;> rfl)
  have hq := hP.1
  have rhx := hx
  unfold jw_rg at rhx
  have rhy := hy
  unfold jw_rg at rhy
  have rhz := hz
  unfold jw_rg at rhz
  refine jw_W_n 3 (i' := 3) (ls' := [some (.inr (.inr 103)), some (.inl x), some (.inl y), some (.inl z)]) (st' := [.inl 9, .inl 0, .inl x]) rfl ?_
  refine jw_W_call (as := [.inl x, .inl 0, .inl 9]) (rest := []) rfl rfl rfl rfl (Nat.le_of_ble_eq_true rfl) (.inl rfl) (jm_in (by unfold jw_rg; omega) (by unfold jw_rg; omega) (by unfold jw_rg; omega)) (by omega) ?_ rfl
  rintro r1 σ1 (⟨rfl, hs, q1⟩ | ⟨rfl, hs, q1⟩)
  · rw [hs]
    show jw_W (js_S n) _ md_302 4 [some (.inr (.inr 103)), some (.inl x), some (.inl y), some (.inl z)] [.inl 1] σ _
    refine jw_W_if rfl (by unfold jw_rg; omega) (fun hc1 => ?_) (fun hc1 => ?_)
    · exact absurd hc1 (show ¬ ((1 : Int) = 0) by omega)
    · clear hc1
      refine jw_W_n 3 (i' := 8) (ls' := [some (.inr (.inr 103)), some (.inl x), some (.inl y), some (.inl z)]) (st' := [.inr (.inr 103), .inl 0, .inl y]) rfl ?_
      refine jw_W_gf rfl rfl rfl ?_
      show jw_W (js_S n) _ md_302 9 [some (.inr (.inr 103)), some (.inl x), some (.inl y), some (.inl z)] [.inl (σ 103 3), .inl 0, .inl y] σ _
      refine jw_W_n 1 (i' := 10) (ls' := [some (.inr (.inr 103)), some (.inl x), some (.inl y), some (.inl z)]) (st' := [.inl 1, .inl (σ 103 3), .inl 0, .inl y]) rfl ?_
      refine jw_W_ic rfl (by unfold jw_rg; omega) (by unfold jw_rg; omega) (fun hc2 => ?_) (fun hc2 => ?_)
      · have hc2 : (σ 103 3) ≤ 1 := hc2
        refine jw_W_n 1 (i' := 14) (ls' := [some (.inr (.inr 103)), some (.inl x), some (.inl y), some (.inl z)]) (st' := [.inl 0, .inl 0, .inl y]) rfl ?_
        refine jw_W_call (as := [.inl y, .inl 0, .inl 0]) (rest := []) rfl rfl rfl rfl (Nat.le_of_ble_eq_true rfl) (.inl rfl) (jm_in (by unfold jw_rg; omega) (by unfold jw_rg; omega) (by unfold jw_rg; omega)) (by omega) ?_ rfl
        rintro r1 σ1 (⟨rfl, hs, q2⟩ | ⟨rfl, hs, q2⟩)
        · rw [hs]
          show jw_W (js_S n) _ md_302 15 [some (.inr (.inr 103)), some (.inl x), some (.inl y), some (.inl z)] [.inl 1] σ _
          refine jw_W_if rfl (by unfold jw_rg; omega) (fun hc3 => ?_) (fun hc3 => ?_)
          · exact absurd hc3 (show ¬ ((1 : Int) = 0) by omega)
          · clear hc3
            refine jw_W_n 3 (i' := 19) (ls' := [some (.inr (.inr 103)), some (.inl x), some (.inl y), some (.inl z)]) (st' := [.inr (.inr 103), .inl 0, .inl z]) rfl ?_
            refine jw_W_gf rfl rfl rfl ?_
            show jw_W (js_S n) _ md_302 20 [some (.inr (.inr 103)), some (.inl x), some (.inl y), some (.inl z)] [.inl (σ 103 3), .inl 0, .inl z] σ _
            refine jw_W_n 1 (i' := 21) (ls' := [some (.inr (.inr 103)), some (.inl x), some (.inl y), some (.inl z)]) (st' := [.inl 2, .inl (σ 103 3), .inl 0, .inl z]) rfl ?_
            refine jw_W_ic rfl (by unfold jw_rg; omega) (by unfold jw_rg; omega) (fun hc4 => ?_) (fun hc4 => ?_)
            · have hc4 : (σ 103 3) ≤ 2 := hc4
              refine jw_W_n 1 (i' := 25) (ls' := [some (.inr (.inr 103)), some (.inl x), some (.inl y), some (.inl z)]) (st' := [.inl 0, .inl 0, .inl z]) rfl ?_
              refine jw_W_call (as := [.inl z, .inl 0, .inl 0]) (rest := []) rfl rfl rfl rfl (Nat.le_of_ble_eq_true rfl) (.inl rfl) (jm_in (by unfold jw_rg; omega) (by unfold jw_rg; omega) (by unfold jw_rg; omega)) (by omega) ?_ rfl
              rintro r1 σ1 (⟨rfl, hs, q3⟩ | ⟨rfl, hs, q3⟩)
              · rw [hs]
                show jw_W (js_S n) _ md_302 26 [some (.inr (.inr 103)), some (.inl x), some (.inl y), some (.inl z)] [.inl 1] σ _
                refine jw_W_if rfl (by unfold jw_rg; omega) (fun hc5 => ?_) (fun hc5 => ?_)
                · exact absurd hc5 (show ¬ ((1 : Int) = 0) by omega)
                · clear hc5
                  refine jw_W_n 2 (i' := 30) (ls' := [some (.inr (.inr 103)), some (.inl x), some (.inl y), some (.inl z)]) (st' := [.inl 1]) rfl ?_
                  refine jw_W_ir rfl ?_
                  exact .inl ⟨rfl, rfl, by unfold jm_ip; omega⟩
              · rw [hs]
                show jw_W (js_S n) _ md_302 26 [some (.inr (.inr 103)), some (.inl x), some (.inl y), some (.inl z)] [.inl 0] σ _
                refine jw_W_if rfl (by unfold jw_rg; omega) (fun hc6 => ?_) (fun hc6 => ?_)
                · clear hc6
                  refine jw_W_n 1 (i' := 30) (ls' := [some (.inr (.inr 103)), some (.inl x), some (.inl y), some (.inl z)]) (st' := [.inl 0]) rfl ?_
                  refine jw_W_ir rfl ?_
                  exact .inr ⟨rfl, rfl, by unfold jm_ip; omega⟩
                · exact absurd hc6 (show ¬ ¬ ((0 : Int) = 0) by omega)
            · have hc4 : ¬ ((σ 103 3) ≤ 2) := hc4
              refine jw_W_n 2 (i' := 25) (ls' := [some (.inr (.inr 103)), some (.inl x), some (.inl y), some (.inl z)]) (st' := [.inl 9, .inl 0, .inl z]) rfl ?_
              refine jw_W_call (as := [.inl z, .inl 0, .inl 9]) (rest := []) rfl rfl rfl rfl (Nat.le_of_ble_eq_true rfl) (.inl rfl) (jm_in (by unfold jw_rg; omega) (by unfold jw_rg; omega) (by unfold jw_rg; omega)) (by omega) ?_ rfl
              rintro r1 σ1 (⟨rfl, hs, q4⟩ | ⟨rfl, hs, q4⟩)
              · rw [hs]
                show jw_W (js_S n) _ md_302 26 [some (.inr (.inr 103)), some (.inl x), some (.inl y), some (.inl z)] [.inl 1] σ _
                refine jw_W_if rfl (by unfold jw_rg; omega) (fun hc7 => ?_) (fun hc7 => ?_)
                · exact absurd hc7 (show ¬ ((1 : Int) = 0) by omega)
                · clear hc7
                  refine jw_W_n 2 (i' := 30) (ls' := [some (.inr (.inr 103)), some (.inl x), some (.inl y), some (.inl z)]) (st' := [.inl 1]) rfl ?_
                  refine jw_W_ir rfl ?_
                  exact .inl ⟨rfl, rfl, by unfold jm_ip; omega⟩
              · rw [hs]
                show jw_W (js_S n) _ md_302 26 [some (.inr (.inr 103)), some (.inl x), some (.inl y), some (.inl z)] [.inl 0] σ _
                refine jw_W_if rfl (by unfold jw_rg; omega) (fun hc8 => ?_) (fun hc8 => ?_)
                · clear hc8
                  refine jw_W_n 1 (i' := 30) (ls' := [some (.inr (.inr 103)), some (.inl x), some (.inl y), some (.inl z)]) (st' := [.inl 0]) rfl ?_
                  refine jw_W_ir rfl ?_
                  exact .inr ⟨rfl, rfl, by unfold jm_ip; omega⟩
                · exact absurd hc8 (show ¬ ¬ ((0 : Int) = 0) by omega)
        · rw [hs]
          show jw_W (js_S n) _ md_302 15 [some (.inr (.inr 103)), some (.inl x), some (.inl y), some (.inl z)] [.inl 0] σ _
          refine jw_W_if rfl (by unfold jw_rg; omega) (fun hc9 => ?_) (fun hc9 => ?_)
          · clear hc9
            refine jw_W_n 1 (i' := 30) (ls' := [some (.inr (.inr 103)), some (.inl x), some (.inl y), some (.inl z)]) (st' := [.inl 0]) rfl ?_
            refine jw_W_ir rfl ?_
            exact .inr ⟨rfl, rfl, by unfold jm_ip; omega⟩
          · exact absurd hc9 (show ¬ ¬ ((0 : Int) = 0) by omega)
      · have hc2 : ¬ ((σ 103 3) ≤ 1) := hc2
        refine jw_W_n 2 (i' := 14) (ls' := [some (.inr (.inr 103)), some (.inl x), some (.inl y), some (.inl z)]) (st' := [.inl 9, .inl 0, .inl y]) rfl ?_
        refine jw_W_call (as := [.inl y, .inl 0, .inl 9]) (rest := []) rfl rfl rfl rfl (Nat.le_of_ble_eq_true rfl) (.inl rfl) (jm_in (by unfold jw_rg; omega) (by unfold jw_rg; omega) (by unfold jw_rg; omega)) (by omega) ?_ rfl
        rintro r1 σ1 (⟨rfl, hs, q5⟩ | ⟨rfl, hs, q5⟩)
        · rw [hs]
          show jw_W (js_S n) _ md_302 15 [some (.inr (.inr 103)), some (.inl x), some (.inl y), some (.inl z)] [.inl 1] σ _
          refine jw_W_if rfl (by unfold jw_rg; omega) (fun hc10 => ?_) (fun hc10 => ?_)
          · exact absurd hc10 (show ¬ ((1 : Int) = 0) by omega)
          · clear hc10
            refine jw_W_n 3 (i' := 19) (ls' := [some (.inr (.inr 103)), some (.inl x), some (.inl y), some (.inl z)]) (st' := [.inr (.inr 103), .inl 0, .inl z]) rfl ?_
            refine jw_W_gf rfl rfl rfl ?_
            show jw_W (js_S n) _ md_302 20 [some (.inr (.inr 103)), some (.inl x), some (.inl y), some (.inl z)] [.inl (σ 103 3), .inl 0, .inl z] σ _
            refine jw_W_n 1 (i' := 21) (ls' := [some (.inr (.inr 103)), some (.inl x), some (.inl y), some (.inl z)]) (st' := [.inl 2, .inl (σ 103 3), .inl 0, .inl z]) rfl ?_
            refine jw_W_ic rfl (by unfold jw_rg; omega) (by unfold jw_rg; omega) (fun hc11 => ?_) (fun hc11 => ?_)
            · have hc11 : (σ 103 3) ≤ 2 := hc11
              refine jw_W_n 1 (i' := 25) (ls' := [some (.inr (.inr 103)), some (.inl x), some (.inl y), some (.inl z)]) (st' := [.inl 0, .inl 0, .inl z]) rfl ?_
              refine jw_W_call (as := [.inl z, .inl 0, .inl 0]) (rest := []) rfl rfl rfl rfl (Nat.le_of_ble_eq_true rfl) (.inl rfl) (jm_in (by unfold jw_rg; omega) (by unfold jw_rg; omega) (by unfold jw_rg; omega)) (by omega) ?_ rfl
              rintro r1 σ1 (⟨rfl, hs, q6⟩ | ⟨rfl, hs, q6⟩)
              · rw [hs]
                show jw_W (js_S n) _ md_302 26 [some (.inr (.inr 103)), some (.inl x), some (.inl y), some (.inl z)] [.inl 1] σ _
                refine jw_W_if rfl (by unfold jw_rg; omega) (fun hc12 => ?_) (fun hc12 => ?_)
                · exact absurd hc12 (show ¬ ((1 : Int) = 0) by omega)
                · clear hc12
                  refine jw_W_n 2 (i' := 30) (ls' := [some (.inr (.inr 103)), some (.inl x), some (.inl y), some (.inl z)]) (st' := [.inl 1]) rfl ?_
                  refine jw_W_ir rfl ?_
                  exact .inl ⟨rfl, rfl, by unfold jm_ip; omega⟩
              · rw [hs]
                show jw_W (js_S n) _ md_302 26 [some (.inr (.inr 103)), some (.inl x), some (.inl y), some (.inl z)] [.inl 0] σ _
                refine jw_W_if rfl (by unfold jw_rg; omega) (fun hc13 => ?_) (fun hc13 => ?_)
                · clear hc13
                  refine jw_W_n 1 (i' := 30) (ls' := [some (.inr (.inr 103)), some (.inl x), some (.inl y), some (.inl z)]) (st' := [.inl 0]) rfl ?_
                  refine jw_W_ir rfl ?_
                  exact .inr ⟨rfl, rfl, by unfold jm_ip; omega⟩
                · exact absurd hc13 (show ¬ ¬ ((0 : Int) = 0) by omega)
            · have hc11 : ¬ ((σ 103 3) ≤ 2) := hc11
              refine jw_W_n 2 (i' := 25) (ls' := [some (.inr (.inr 103)), some (.inl x), some (.inl y), some (.inl z)]) (st' := [.inl 9, .inl 0, .inl z]) rfl ?_
              refine jw_W_call (as := [.inl z, .inl 0, .inl 9]) (rest := []) rfl rfl rfl rfl (Nat.le_of_ble_eq_true rfl) (.inl rfl) (jm_in (by unfold jw_rg; omega) (by unfold jw_rg; omega) (by unfold jw_rg; omega)) (by omega) ?_ rfl
              rintro r1 σ1 (⟨rfl, hs, q7⟩ | ⟨rfl, hs, q7⟩)
              · rw [hs]
                show jw_W (js_S n) _ md_302 26 [some (.inr (.inr 103)), some (.inl x), some (.inl y), some (.inl z)] [.inl 1] σ _
                refine jw_W_if rfl (by unfold jw_rg; omega) (fun hc14 => ?_) (fun hc14 => ?_)
                · exact absurd hc14 (show ¬ ((1 : Int) = 0) by omega)
                · clear hc14
                  refine jw_W_n 2 (i' := 30) (ls' := [some (.inr (.inr 103)), some (.inl x), some (.inl y), some (.inl z)]) (st' := [.inl 1]) rfl ?_
                  refine jw_W_ir rfl ?_
                  exact .inl ⟨rfl, rfl, by unfold jm_ip; omega⟩
              · rw [hs]
                show jw_W (js_S n) _ md_302 26 [some (.inr (.inr 103)), some (.inl x), some (.inl y), some (.inl z)] [.inl 0] σ _
                refine jw_W_if rfl (by unfold jw_rg; omega) (fun hc15 => ?_) (fun hc15 => ?_)
                · clear hc15
                  refine jw_W_n 1 (i' := 30) (ls' := [some (.inr (.inr 103)), some (.inl x), some (.inl y), some (.inl z)]) (st' := [.inl 0]) rfl ?_
                  refine jw_W_ir rfl ?_
                  exact .inr ⟨rfl, rfl, by unfold jm_ip; omega⟩
                · exact absurd hc15 (show ¬ ¬ ((0 : Int) = 0) by omega)
        · rw [hs]
          show jw_W (js_S n) _ md_302 15 [some (.inr (.inr 103)), some (.inl x), some (.inl y), some (.inl z)] [.inl 0] σ _
          refine jw_W_if rfl (by unfold jw_rg; omega) (fun hc16 => ?_) (fun hc16 => ?_)
          · clear hc16
            refine jw_W_n 1 (i' := 30) (ls' := [some (.inr (.inr 103)), some (.inl x), some (.inl y), some (.inl z)]) (st' := [.inl 0]) rfl ?_
            refine jw_W_ir rfl ?_
            exact .inr ⟨rfl, rfl, by unfold jm_ip; omega⟩
          · exact absurd hc16 (show ¬ ¬ ((0 : Int) = 0) by omega)
  · rw [hs]
    show jw_W (js_S n) _ md_302 4 [some (.inr (.inr 103)), some (.inl x), some (.inl y), some (.inl z)] [.inl 0] σ _
    refine jw_W_if rfl (by unfold jw_rg; omega) (fun hc17 => ?_) (fun hc17 => ?_)
    · clear hc17
      refine jw_W_n 1 (i' := 30) (ls' := [some (.inr (.inr 103)), some (.inl x), some (.inl y), some (.inl z)]) (st' := [.inl 0]) rfl ?_
      refine jw_W_ir rfl ?_
      exact .inr ⟨rfl, rfl, by unfold jm_ip; omega⟩
    · exact absurd hc17 (show ¬ ¬ ((0 : Int) = 0) by omega)
def jm_am (σ : jw_H) (x y z k m : Int) : Prop := (m = 1 ∧ jm_bx1 σ x y z ∧ ∀ j, 0 ≤ j → j < k → jm_ok σ j x y z) ∨ (m = 0 ∧ ¬ (jm_bx1 σ x y z ∧ ∀ j, 0 ≤ j → j < k → jm_ok σ j x y z))
theorem jm_am_1 {σ : jw_H} {x y z k m : Int} (k0 : 0 ≤ k) (h : jm_am σ x y z k m) (hm : m ≠ 0) (ho : jm_ok σ k x y z) : jm_am σ x y z (k + 1) 1 := by
  rcases h with ⟨-, h1, h2⟩ | ⟨h0, -⟩
  · refine .inl ⟨rfl, h1, fun j j0 j1 => ?_⟩
    by_cases e : j = k
    · rw [e]
      exact ho
    · exact h2 j j0 (by omega)
  · exact absurd h0 hm
theorem jm_am_0 {σ : jw_H} {x y z k m : Int} (k0 : 0 ≤ k) (h : jm_am σ x y z k m) (hm : m = 0 ∨ ¬ jm_ok σ k x y z) : jm_am σ x y z (k + 1) 0 := by
  refine .inr ⟨rfl, ?_⟩
  rintro ⟨h1, h2⟩
  rcases hm with hm | hm
  · rcases h with ⟨h0, -⟩ | ⟨-, h0⟩
    · omega
    · exact h0 ⟨h1, fun j j0 j1 => h2 j j0 (by omega)⟩
  · exact hm (h2 k k0 (by omega))
theorem jm_allow_loop {n : Nat} {σ : jw_H} {D : Nat} {x y z : Int} {Q : Option jw_V → jw_H → Prop} (hP : jm_Pb σ) (hi : jm_ip σ x y z) (hQ : ∀ m v, jm_am σ x y z (σ 103 5) m → jw_W (js_S n) D md_303 99 [some (.inr (.inr 103)), some (.inl x), some (.inl y), some (.inl z), some (.inl m), some (.inl (σ 103 5)), v] [] σ Q) : ∀ (f : Nat) {k m : Int} {v : Option jw_V}, 0 ≤ k → k + f = σ 103 5 → jm_am σ x y z k m → jw_W (js_S n) D md_303 32 [some (.inr (.inr 103)), some (.inl x), some (.inl y), some (.inl z), some (.inl m), some (.inl k), v] [] σ Q
  | f, k, m, v, k0, hk, H => by
    have ih : ∀ {m' : Int} {v' : Option jw_V}, k < σ 103 5 → jm_am σ x y z (k + 1) m' → jw_W (js_S n) D md_303 32 [some (.inr (.inr 103)), some (.inl x), some (.inl y), some (.inl z), some (.inl m'), some (.inl (k + 1)), v'] [] σ Q := by
      intro m' v' h1 h2
      match f, hk with
      | 0, hk => omega
      | f + 1, hk => exact jm_allow_loop hP hi hQ f (by omega) (by omega) h2
    have hi2 := hi
    unfold jm_ip at hi2
    have pk := hP.2.2.1
    have m01 : m = 0 ∨ m = 1 := by
      rcases H with ⟨h, -⟩ | ⟨h, -⟩
      · exact .inr h
      · exact .inl h
    refine jw_W_n 2 (i' := 34) (ls' := [some (.inr (.inr 103)), some (.inl x), some (.inl y), some (.inl z), some (.inl m), some (.inl k), v]) (st' := [.inr (.inr 103), .inl k]) rfl ?_
    refine jw_W_gf rfl rfl rfl ?_
    show jw_W (js_S n) _ md_303 35 [some (.inr (.inr 103)), some (.inl x), some (.inl y), some (.inl z), some (.inl m), some (.inl k), v] [.inl (σ 103 5), .inl k] σ _
    refine jw_W_ic rfl (by unfold jw_rg; omega) (by unfold jw_rg; omega) (fun hc1 => ?_) (fun hc1 => ?_)
    · have hc1 : k ≥ (σ 103 5) := hc1
      have hkl : k = σ 103 5 := by omega
      subst hkl
      exact hQ m v H
    · have hc1 : ¬ (k ≥ (σ 103 5)) := hc1
      have kk := hP.2.2.2.1 k k0 (by omega)
      have c0 := kk.1 0 (by omega) (by omega)
      have c1 := kk.1 1 (by omega) (by omega)
      have c2 := kk.1 2 (by omega) (by omega)
      rw [Int.add_zero] at c0
      have p0 := ge_m3 c0.1 c0.2.1 (x := x) (k := 9) (by omega) (by omega)
      have p1 := ge_m3 c1.1 c1.2.1 (x := y) (k := 9) (by omega) (by omega)
      have p2 := ge_m3 c2.1 c2.2.1 (x := z) (k := 9) (by omega) (by omega)
      have hd := kk.2.1
      refine jw_W_n 1 (i' := 37) (ls' := [some (.inr (.inr 103)), some (.inl x), some (.inl y), some (.inl z), some (.inl m), some (.inl k), v]) (st' := [.inr (.inr 103)]) rfl ?_
      refine jw_W_gf rfl rfl rfl ?_
      show jw_W (js_S n) _ md_303 38 [some (.inr (.inr 103)), some (.inl x), some (.inl y), some (.inl z), some (.inl m), some (.inl k), v] [.inr (.inr 105)] σ _
      refine jw_W_n 3 (i' := 41) (ls' := [some (.inr (.inr 103)), some (.inl x), some (.inl y), some (.inl z), some (.inl m), some (.inl k), v]) (st' := [.inl (5 * k), .inr (.inr 105)]) rfl ?_
      refine jw_W_ia rfl rfl (by omega) (by omega) (by omega) ?_
      show jw_W (js_S n) _ md_303 42 [some (.inr (.inr 103)), some (.inl x), some (.inl y), some (.inl z), some (.inl m), some (.inl k), v] [.inl (σ 105 (5 * k))] σ _
      refine jw_W_n 3 (i' := 45) (ls' := [some (.inr (.inr 103)), some (.inl x), some (.inl y), some (.inl z), some (.inl m), some (.inl k), v]) (st' := [.inr (.inr 103), .inl ((σ 105 (5 * k)) * x)]) rfl ?_
      refine jw_W_gf rfl rfl rfl ?_
      show jw_W (js_S n) _ md_303 46 [some (.inr (.inr 103)), some (.inl x), some (.inl y), some (.inl z), some (.inl m), some (.inl k), v] [.inr (.inr 105), .inl ((σ 105 (5 * k)) * x)] σ _
      refine jw_W_n 5 (i' := 51) (ls' := [some (.inr (.inr 103)), some (.inl x), some (.inl y), some (.inl z), some (.inl m), some (.inl k), v]) (st' := [.inl ((5 * k) + 1), .inr (.inr 105), .inl ((σ 105 (5 * k)) * x)]) rfl ?_
      refine jw_W_ia rfl rfl (by omega) (by omega) (by omega) ?_
      show jw_W (js_S n) _ md_303 52 [some (.inr (.inr 103)), some (.inl x), some (.inl y), some (.inl z), some (.inl m), some (.inl k), v] [.inl (σ 105 ((5 * k) + 1)), .inl ((σ 105 (5 * k)) * x)] σ _
      refine jw_W_n 4 (i' := 56) (ls' := [some (.inr (.inr 103)), some (.inl x), some (.inl y), some (.inl z), some (.inl m), some (.inl k), v]) (st' := [.inr (.inr 103), .inl (((σ 105 (5 * k)) * x) + ((σ 105 ((5 * k) + 1)) * y))]) rfl ?_
      refine jw_W_gf rfl rfl rfl ?_
      show jw_W (js_S n) _ md_303 57 [some (.inr (.inr 103)), some (.inl x), some (.inl y), some (.inl z), some (.inl m), some (.inl k), v] [.inr (.inr 105), .inl (((σ 105 (5 * k)) * x) + ((σ 105 ((5 * k) + 1)) * y))] σ _
      refine jw_W_n 5 (i' := 62) (ls' := [some (.inr (.inr 103)), some (.inl x), some (.inl y), some (.inl z), some (.inl m), some (.inl k), v]) (st' := [.inl ((5 * k) + 2), .inr (.inr 105), .inl (((σ 105 (5 * k)) * x) + ((σ 105 ((5 * k) + 1)) * y))]) rfl ?_
      refine jw_W_ia rfl rfl (by omega) (by omega) (by omega) ?_
      show jw_W (js_S n) _ md_303 63 [some (.inr (.inr 103)), some (.inl x), some (.inl y), some (.inl z), some (.inl m), some (.inl k), v] [.inl (σ 105 ((5 * k) + 2)), .inl (((σ 105 (5 * k)) * x) + ((σ 105 ((5 * k) + 1)) * y))] σ _
      refine jw_W_n 4 (i' := 67) (ls' := [some (.inr (.inr 103)), some (.inl x), some (.inl y), some (.inl z), some (.inl m), some (.inl k), v]) (st' := [.inr (.inr 103), .inl ((((σ 105 (5 * k)) * x) + ((σ 105 ((5 * k) + 1)) * y)) + ((σ 105 ((5 * k) + 2)) * z))]) rfl ?_
      refine jw_W_gf rfl rfl rfl ?_
      show jw_W (js_S n) _ md_303 68 [some (.inr (.inr 103)), some (.inl x), some (.inl y), some (.inl z), some (.inl m), some (.inl k), v] [.inr (.inr 105), .inl ((((σ 105 (5 * k)) * x) + ((σ 105 ((5 * k) + 1)) * y)) + ((σ 105 ((5 * k) + 2)) * z))] σ _
      refine jw_W_n 5 (i' := 73) (ls' := [some (.inr (.inr 103)), some (.inl x), some (.inl y), some (.inl z), some (.inl m), some (.inl k), v]) (st' := [.inl ((5 * k) + 3), .inr (.inr 105), .inl ((((σ 105 (5 * k)) * x) + ((σ 105 ((5 * k) + 1)) * y)) + ((σ 105 ((5 * k) + 2)) * z))]) rfl ?_
      refine jw_W_ia rfl rfl (by omega) (by omega) (by omega) ?_
      show jw_W (js_S n) _ md_303 74 [some (.inr (.inr 103)), some (.inl x), some (.inl y), some (.inl z), some (.inl m), some (.inl k), v] [.inl (σ 105 ((5 * k) + 3)), .inl ((((σ 105 (5 * k)) * x) + ((σ 105 ((5 * k) + 1)) * y)) + ((σ 105 ((5 * k) + 2)) * z))] σ _
      refine jw_W_n 3 (i' := 77) (ls' := [some (.inr (.inr 103)), some (.inl x), some (.inl y), some (.inl z), some (.inl m), some (.inl k), some (.inl (((((σ 105 (5 * k)) * x) + ((σ 105 ((5 * k) + 1)) * y)) + ((σ 105 ((5 * k) + 2)) * z)) - (σ 105 ((5 * k) + 3))))]) (st' := [.inl m]) rfl ?_
      refine jw_W_if rfl (by unfold jw_rg; omega) (fun hc2 => ?_) (fun hc2 => ?_)
      · have hc2 : m = 0 := hc2
        refine jw_W_n 4 (i' := 32) (ls' := [some (.inr (.inr 103)), some (.inl x), some (.inl y), some (.inl z), some (.inl 0), some (.inl (k + 1)), some (.inl (((((σ 105 (5 * k)) * x) + ((σ 105 ((5 * k) + 1)) * y)) + ((σ 105 ((5 * k) + 2)) * z)) - (σ 105 ((5 * k) + 3))))]) (st' := []) rfl ?_
        exact ih (by omega) (jm_am_0 k0 H (by first | exact .inl (by omega) | exact .inr (by unfold jm_ok jm_su; omega)))
      · have hc2 : ¬ (m = 0) := hc2
        refine jw_W_n 1 (i' := 79) (ls' := [some (.inr (.inr 103)), some (.inl x), some (.inl y), some (.inl z), some (.inl m), some (.inl k), some (.inl (((((σ 105 (5 * k)) * x) + ((σ 105 ((5 * k) + 1)) * y)) + ((σ 105 ((5 * k) + 2)) * z)) - (σ 105 ((5 * k) + 3))))]) (st' := [.inr (.inr 103)]) rfl ?_
        refine jw_W_gf rfl rfl rfl ?_
        show jw_W (js_S n) _ md_303 80 [some (.inr (.inr 103)), some (.inl x), some (.inl y), some (.inl z), some (.inl m), some (.inl k), some (.inl (((((σ 105 (5 * k)) * x) + ((σ 105 ((5 * k) + 1)) * y)) + ((σ 105 ((5 * k) + 2)) * z)) - (σ 105 ((5 * k) + 3))))] [.inr (.inr 105)] σ _
        refine jw_W_n 5 (i' := 85) (ls' := [some (.inr (.inr 103)), some (.inl x), some (.inl y), some (.inl z), some (.inl m), some (.inl k), some (.inl (((((σ 105 (5 * k)) * x) + ((σ 105 ((5 * k) + 1)) * y)) + ((σ 105 ((5 * k) + 2)) * z)) - (σ 105 ((5 * k) + 3))))]) (st' := [.inl ((5 * k) + 4), .inr (.inr 105)]) rfl ?_
        refine jw_W_ia rfl rfl (by omega) (by omega) (by omega) ?_
        show jw_W (js_S n) _ md_303 86 [some (.inr (.inr 103)), some (.inl x), some (.inl y), some (.inl z), some (.inl m), some (.inl k), some (.inl (((((σ 105 (5 * k)) * x) + ((σ 105 ((5 * k) + 1)) * y)) + ((σ 105 ((5 * k) + 2)) * z)) - (σ 105 ((5 * k) + 3))))] [.inl (σ 105 ((5 * k) + 4))] σ _
        refine jw_W_n 1 (i' := 87) (ls' := [some (.inr (.inr 103)), some (.inl x), some (.inl y), some (.inl z), some (.inl m), some (.inl k), some (.inl (((((σ 105 (5 * k)) * x) + ((σ 105 ((5 * k) + 1)) * y)) + ((σ 105 ((5 * k) + 2)) * z)) - (σ 105 ((5 * k) + 3))))]) (st' := [.inl 1, .inl (σ 105 ((5 * k) + 4))]) rfl ?_
        refine jw_W_ic rfl (by unfold jw_rg; omega) (by unfold jw_rg; omega) (fun hc3 => ?_) (fun hc3 => ?_)
        · have hc3 : (σ 105 ((5 * k) + 4)) ≠ 1 := hc3
          refine jw_W_n 1 (i' := 92) (ls' := [some (.inr (.inr 103)), some (.inl x), some (.inl y), some (.inl z), some (.inl m), some (.inl k), some (.inl (((((σ 105 (5 * k)) * x) + ((σ 105 ((5 * k) + 1)) * y)) + ((σ 105 ((5 * k) + 2)) * z)) - (σ 105 ((5 * k) + 3))))]) (st' := [.inl (((((σ 105 (5 * k)) * x) + ((σ 105 ((5 * k) + 1)) * y)) + ((σ 105 ((5 * k) + 2)) * z)) - (σ 105 ((5 * k) + 3)))]) rfl ?_
          refine jw_W_if rfl (by unfold jw_rg; omega) (fun hc4 => ?_) (fun hc4 => ?_)
          · have hc4 : (((((σ 105 (5 * k)) * x) + ((σ 105 ((5 * k) + 1)) * y)) + ((σ 105 ((5 * k) + 2)) * z)) - (σ 105 ((5 * k) + 3))) > 0 := hc4
            refine jw_W_n 4 (i' := 32) (ls' := [some (.inr (.inr 103)), some (.inl x), some (.inl y), some (.inl z), some (.inl 0), some (.inl (k + 1)), some (.inl (((((σ 105 (5 * k)) * x) + ((σ 105 ((5 * k) + 1)) * y)) + ((σ 105 ((5 * k) + 2)) * z)) - (σ 105 ((5 * k) + 3))))]) (st' := []) rfl ?_
            exact ih (by omega) (jm_am_0 k0 H (by first | exact .inl (by omega) | exact .inr (by unfold jm_ok jm_su; omega)))
          · have hc4 : ¬ ((((((σ 105 (5 * k)) * x) + ((σ 105 ((5 * k) + 1)) * y)) + ((σ 105 ((5 * k) + 2)) * z)) - (σ 105 ((5 * k) + 3))) > 0) := hc4
            refine jw_W_n 5 (i' := 32) (ls' := [some (.inr (.inr 103)), some (.inl x), some (.inl y), some (.inl z), some (.inl 1), some (.inl (k + 1)), some (.inl (((((σ 105 (5 * k)) * x) + ((σ 105 ((5 * k) + 1)) * y)) + ((σ 105 ((5 * k) + 2)) * z)) - (σ 105 ((5 * k) + 3))))]) (st' := []) rfl ?_
            exact ih (by omega) (jm_am_1 k0 H (by omega) (by unfold jm_ok jm_su; omega))
        · have hc3 : (σ 105 ((5 * k) + 4)) = 1 := Classical.not_not.mp hc3
          refine jw_W_n 1 (i' := 89) (ls' := [some (.inr (.inr 103)), some (.inl x), some (.inl y), some (.inl z), some (.inl m), some (.inl k), some (.inl (((((σ 105 (5 * k)) * x) + ((σ 105 ((5 * k) + 1)) * y)) + ((σ 105 ((5 * k) + 2)) * z)) - (σ 105 ((5 * k) + 3))))]) (st' := [.inl (((((σ 105 (5 * k)) * x) + ((σ 105 ((5 * k) + 1)) * y)) + ((σ 105 ((5 * k) + 2)) * z)) - (σ 105 ((5 * k) + 3)))]) rfl ?_
          refine jw_W_if rfl (by unfold jw_rg; omega) (fun hc5 => ?_) (fun hc5 => ?_)
          · have hc5 : (((((σ 105 (5 * k)) * x) + ((σ 105 ((5 * k) + 1)) * y)) + ((σ 105 ((5 * k) + 2)) * z)) - (σ 105 ((5 * k) + 3))) < 0 := hc5
            refine jw_W_n 4 (i' := 32) (ls' := [some (.inr (.inr 103)), some (.inl x), some (.inl y), some (.inl z), some (.inl 0), some (.inl (k + 1)), some (.inl (((((σ 105 (5 * k)) * x) + ((σ 105 ((5 * k) + 1)) * y)) + ((σ 105 ((5 * k) + 2)) * z)) - (σ 105 ((5 * k) + 3))))]) (st' := []) rfl ?_
            exact ih (by omega) (jm_am_0 k0 H (by first | exact .inl (by omega) | exact .inr (by unfold jm_ok jm_su; omega)))
          · have hc5 : ¬ ((((((σ 105 (5 * k)) * x) + ((σ 105 ((5 * k) + 1)) * y)) + ((σ 105 ((5 * k) + 2)) * z)) - (σ 105 ((5 * k) + 3))) < 0) := hc5
            refine jw_W_n 6 (i' := 32) (ls' := [some (.inr (.inr 103)), some (.inl x), some (.inl y), some (.inl z), some (.inl 1), some (.inl (k + 1)), some (.inl (((((σ 105 (5 * k)) * x) + ((σ 105 ((5 * k) + 1)) * y)) + ((σ 105 ((5 * k) + 2)) * z)) - (σ 105 ((5 * k) + 3))))]) (st' := []) rfl ?_
            exact ih (by omega) (jm_am_1 k0 H (by omega) (by unfold jm_ok jm_su; omega))
theorem jm_am_end {σ : jw_H} {x y z m : Int} (hP : jm_Pb σ) (hi : jm_ip σ x y z) (hm : jm_am σ x y z (σ 103 5) m) : (some (.inl m : jw_V) = some (.inl 1) ∧ σ = σ ∧ ge_F (jm_RR (σ 103 3) (jm_bA σ)) (x, y, z, 1)) ∨ (some (.inl m : jw_V) = some (.inl 0) ∧ σ = σ ∧ ¬ ge_F (jm_RR (σ 103 3) (jm_bA σ)) (x, y, z, 1)) := by
  rw [jm_allowed hP hi]
  rcases hm with ⟨rfl, h⟩ | ⟨rfl, h⟩
  · exact .inl ⟨rfl, rfl, h⟩
  · exact .inr ⟨rfl, rfl, h⟩
theorem jm_isAllowed {n : Nat} {σ : jw_H} {x y z : Int} (hP : jm_Pb σ) (hi : jm_ip σ x y z) : jw_T (js_S n) 1 303 [.inr (.inr 103), .inl x, .inl y, .inl z] σ (fun r σ' => (r = some (.inl 1) ∧ σ' = σ ∧ ge_F (jm_RR (σ 103 3) (jm_bA σ)) (x, y, z, 1)) ∨ (r = some (.inl 0) ∧ σ' = σ ∧ ¬ ge_F (jm_RR (σ 103 3) (jm_bA σ)) (x, y, z, 1))) := by
  refine jw_T_of (D := 0) (M := mm_303) rfl (Nat.le_of_ble_eq_true rfl) (ls0 := [some (.inr (.inr 103)), some (.inl x), some (.inl y), some (.inl z), none, none, none]) rfl ?_ (by rintro _ _ (⟨rfl, -⟩ | ⟨rfl, -⟩) <;> rfl)
  have hi2 := hi
  unfold jm_ip at hi2
  have hq := hP.1
  have b0 := hP.2.2.2.2.1 0 (by omega) (by omega)
  have b1 := hP.2.2.2.2.1 1 (by omega) (by omega)
  have b2 := hP.2.2.2.2.1 2 (by omega) (by omega)
  refine jw_W_n 2 (i' := 2) (ls' := [some (.inr (.inr 103)), some (.inl x), some (.inl y), some (.inl z), none, none, none]) (st' := [.inr (.inr 103), .inl x]) rfl ?_
  refine jw_W_gf rfl rfl rfl ?_
  show jw_W (js_S n) _ md_303 3 [some (.inr (.inr 103)), some (.inl x), some (.inl y), some (.inl z), none, none, none] [.inr (.inr 106), .inl x] σ _
  refine jw_W_n 1 (i' := 4) (ls' := [some (.inr (.inr 103)), some (.inl x), some (.inl y), some (.inl z), none, none, none]) (st' := [.inl 0, .inr (.inr 106), .inl x]) rfl ?_
  refine jw_W_ia rfl rfl (by omega) (by omega) (by omega) ?_
  show jw_W (js_S n) _ md_303 5 [some (.inr (.inr 103)), some (.inl x), some (.inl y), some (.inl z), none, none, none] [.inl (σ 106 0), .inl x] σ _
  refine jw_W_ic rfl (by unfold jw_rg; omega) (by unfold jw_rg; omega) (fun hc1 => ?_) (fun hc1 => ?_)
  · have hc1 : x > (σ 106 0) := hc1
    refine jw_W_n 4 (i' := 32) (ls' := [some (.inr (.inr 103)), some (.inl x), some (.inl y), some (.inl z), some (.inl 0), some (.inl 0), none]) (st' := []) rfl ?_
    refine jm_allow_loop (D := 0) hP hi (fun m v hm => ?_) (σ 103 5).toNat (k := 0) (by omega) (by have := hP.2.2.1; omega) (.inr ⟨rfl, fun hh => by have := hh.1; unfold jm_bx1 at this; omega⟩)
    refine jw_W_n 1 (i' := 100) (ls' := [some (.inr (.inr 103)), some (.inl x), some (.inl y), some (.inl z), some (.inl m), some (.inl (σ 103 5)), v]) (st' := [.inl m]) rfl ?_
    refine jw_W_ir rfl ?_
    exact jm_am_end hP hi hm
  · have hc1 : ¬ (x > (σ 106 0)) := hc1
    refine jw_W_n 1 (i' := 7) (ls' := [some (.inr (.inr 103)), some (.inl x), some (.inl y), some (.inl z), none, none, none]) (st' := [.inr (.inr 103)]) rfl ?_
    refine jw_W_gf rfl rfl rfl ?_
    show jw_W (js_S n) _ md_303 8 [some (.inr (.inr 103)), some (.inl x), some (.inl y), some (.inl z), none, none, none] [.inl (σ 103 3)] σ _
    refine jw_W_n 1 (i' := 9) (ls' := [some (.inr (.inr 103)), some (.inl x), some (.inl y), some (.inl z), none, none, none]) (st' := [.inl 2, .inl (σ 103 3)]) rfl ?_
    refine jw_W_ic rfl (by unfold jw_rg; omega) (by unfold jw_rg; omega) (fun hc2 => ?_) (fun hc2 => ?_)
    · have hc2 : (σ 103 3) < 2 := hc2
      refine jw_W_n 1 (i' := 17) (ls' := [some (.inr (.inr 103)), some (.inl x), some (.inl y), some (.inl z), none, none, none]) (st' := [.inr (.inr 103)]) rfl ?_
      refine jw_W_gf rfl rfl rfl ?_
      show jw_W (js_S n) _ md_303 18 [some (.inr (.inr 103)), some (.inl x), some (.inl y), some (.inl z), none, none, none] [.inl (σ 103 3)] σ _
      refine jw_W_n 1 (i' := 19) (ls' := [some (.inr (.inr 103)), some (.inl x), some (.inl y), some (.inl z), none, none, none]) (st' := [.inl 3, .inl (σ 103 3)]) rfl ?_
      refine jw_W_ic rfl (by unfold jw_rg; omega) (by unfold jw_rg; omega) (fun hc3 => ?_) (fun hc3 => ?_)
      · have hc3 : (σ 103 3) < 3 := hc3
        refine jw_W_n 5 (i' := 32) (ls' := [some (.inr (.inr 103)), some (.inl x), some (.inl y), some (.inl z), some (.inl 1), some (.inl 0), none]) (st' := []) rfl ?_
        refine jm_allow_loop (D := 0) hP hi (fun m v hm => ?_) (σ 103 5).toNat (k := 0) (by omega) (by have := hP.2.2.1; omega) (.inl ⟨rfl, by unfold jm_bx1; omega, fun j j0 j1 => by omega⟩)
        refine jw_W_n 1 (i' := 100) (ls' := [some (.inr (.inr 103)), some (.inl x), some (.inl y), some (.inl z), some (.inl m), some (.inl (σ 103 5)), v]) (st' := [.inl m]) rfl ?_
        refine jw_W_ir rfl ?_
        exact jm_am_end hP hi hm
      · have hc3 : ¬ ((σ 103 3) < 3) := hc3
        refine jw_W_n 2 (i' := 22) (ls' := [some (.inr (.inr 103)), some (.inl x), some (.inl y), some (.inl z), none, none, none]) (st' := [.inr (.inr 103), .inl z]) rfl ?_
        refine jw_W_gf rfl rfl rfl ?_
        show jw_W (js_S n) _ md_303 23 [some (.inr (.inr 103)), some (.inl x), some (.inl y), some (.inl z), none, none, none] [.inr (.inr 106), .inl z] σ _
        refine jw_W_n 1 (i' := 24) (ls' := [some (.inr (.inr 103)), some (.inl x), some (.inl y), some (.inl z), none, none, none]) (st' := [.inl 2, .inr (.inr 106), .inl z]) rfl ?_
        refine jw_W_ia rfl rfl (by omega) (by omega) (by omega) ?_
        show jw_W (js_S n) _ md_303 25 [some (.inr (.inr 103)), some (.inl x), some (.inl y), some (.inl z), none, none, none] [.inl (σ 106 2), .inl z] σ _
        refine jw_W_ic rfl (by unfold jw_rg; omega) (by unfold jw_rg; omega) (fun hc4 => ?_) (fun hc4 => ?_)
        · have hc4 : z > (σ 106 2) := hc4
          refine jw_W_n 4 (i' := 32) (ls' := [some (.inr (.inr 103)), some (.inl x), some (.inl y), some (.inl z), some (.inl 0), some (.inl 0), none]) (st' := []) rfl ?_
          refine jm_allow_loop (D := 0) hP hi (fun m v hm => ?_) (σ 103 5).toNat (k := 0) (by omega) (by have := hP.2.2.1; omega) (.inr ⟨rfl, fun hh => by have := hh.1; unfold jm_bx1 at this; omega⟩)
          refine jw_W_n 1 (i' := 100) (ls' := [some (.inr (.inr 103)), some (.inl x), some (.inl y), some (.inl z), some (.inl m), some (.inl (σ 103 5)), v]) (st' := [.inl m]) rfl ?_
          refine jw_W_ir rfl ?_
          exact jm_am_end hP hi hm
        · have hc4 : ¬ (z > (σ 106 2)) := hc4
          refine jw_W_n 5 (i' := 32) (ls' := [some (.inr (.inr 103)), some (.inl x), some (.inl y), some (.inl z), some (.inl 1), some (.inl 0), none]) (st' := []) rfl ?_
          refine jm_allow_loop (D := 0) hP hi (fun m v hm => ?_) (σ 103 5).toNat (k := 0) (by omega) (by have := hP.2.2.1; omega) (.inl ⟨rfl, by unfold jm_bx1; omega, fun j j0 j1 => by omega⟩)
          refine jw_W_n 1 (i' := 100) (ls' := [some (.inr (.inr 103)), some (.inl x), some (.inl y), some (.inl z), some (.inl m), some (.inl (σ 103 5)), v]) (st' := [.inl m]) rfl ?_
          refine jw_W_ir rfl ?_
          exact jm_am_end hP hi hm
    · have hc2 : ¬ ((σ 103 3) < 2) := hc2
      refine jw_W_n 2 (i' := 12) (ls' := [some (.inr (.inr 103)), some (.inl x), some (.inl y), some (.inl z), none, none, none]) (st' := [.inr (.inr 103), .inl y]) rfl ?_
      refine jw_W_gf rfl rfl rfl ?_
      show jw_W (js_S n) _ md_303 13 [some (.inr (.inr 103)), some (.inl x), some (.inl y), some (.inl z), none, none, none] [.inr (.inr 106), .inl y] σ _
      refine jw_W_n 1 (i' := 14) (ls' := [some (.inr (.inr 103)), some (.inl x), some (.inl y), some (.inl z), none, none, none]) (st' := [.inl 1, .inr (.inr 106), .inl y]) rfl ?_
      refine jw_W_ia rfl rfl (by omega) (by omega) (by omega) ?_
      show jw_W (js_S n) _ md_303 15 [some (.inr (.inr 103)), some (.inl x), some (.inl y), some (.inl z), none, none, none] [.inl (σ 106 1), .inl y] σ _
      refine jw_W_ic rfl (by unfold jw_rg; omega) (by unfold jw_rg; omega) (fun hc5 => ?_) (fun hc5 => ?_)
      · have hc5 : y > (σ 106 1) := hc5
        refine jw_W_n 4 (i' := 32) (ls' := [some (.inr (.inr 103)), some (.inl x), some (.inl y), some (.inl z), some (.inl 0), some (.inl 0), none]) (st' := []) rfl ?_
        refine jm_allow_loop (D := 0) hP hi (fun m v hm => ?_) (σ 103 5).toNat (k := 0) (by omega) (by have := hP.2.2.1; omega) (.inr ⟨rfl, fun hh => by have := hh.1; unfold jm_bx1 at this; omega⟩)
        refine jw_W_n 1 (i' := 100) (ls' := [some (.inr (.inr 103)), some (.inl x), some (.inl y), some (.inl z), some (.inl m), some (.inl (σ 103 5)), v]) (st' := [.inl m]) rfl ?_
        refine jw_W_ir rfl ?_
        exact jm_am_end hP hi hm
      · have hc5 : ¬ (y > (σ 106 1)) := hc5
        refine jw_W_n 1 (i' := 17) (ls' := [some (.inr (.inr 103)), some (.inl x), some (.inl y), some (.inl z), none, none, none]) (st' := [.inr (.inr 103)]) rfl ?_
        refine jw_W_gf rfl rfl rfl ?_
        show jw_W (js_S n) _ md_303 18 [some (.inr (.inr 103)), some (.inl x), some (.inl y), some (.inl z), none, none, none] [.inl (σ 103 3)] σ _
        refine jw_W_n 1 (i' := 19) (ls' := [some (.inr (.inr 103)), some (.inl x), some (.inl y), some (.inl z), none, none, none]) (st' := [.inl 3, .inl (σ 103 3)]) rfl ?_
        refine jw_W_ic rfl (by unfold jw_rg; omega) (by unfold jw_rg; omega) (fun hc6 => ?_) (fun hc6 => ?_)
        · have hc6 : (σ 103 3) < 3 := hc6
          refine jw_W_n 5 (i' := 32) (ls' := [some (.inr (.inr 103)), some (.inl x), some (.inl y), some (.inl z), some (.inl 1), some (.inl 0), none]) (st' := []) rfl ?_
          refine jm_allow_loop (D := 0) hP hi (fun m v hm => ?_) (σ 103 5).toNat (k := 0) (by omega) (by have := hP.2.2.1; omega) (.inl ⟨rfl, by unfold jm_bx1; omega, fun j j0 j1 => by omega⟩)
          refine jw_W_n 1 (i' := 100) (ls' := [some (.inr (.inr 103)), some (.inl x), some (.inl y), some (.inl z), some (.inl m), some (.inl (σ 103 5)), v]) (st' := [.inl m]) rfl ?_
          refine jw_W_ir rfl ?_
          exact jm_am_end hP hi hm
        · have hc6 : ¬ ((σ 103 3) < 3) := hc6
          refine jw_W_n 2 (i' := 22) (ls' := [some (.inr (.inr 103)), some (.inl x), some (.inl y), some (.inl z), none, none, none]) (st' := [.inr (.inr 103), .inl z]) rfl ?_
          refine jw_W_gf rfl rfl rfl ?_
          show jw_W (js_S n) _ md_303 23 [some (.inr (.inr 103)), some (.inl x), some (.inl y), some (.inl z), none, none, none] [.inr (.inr 106), .inl z] σ _
          refine jw_W_n 1 (i' := 24) (ls' := [some (.inr (.inr 103)), some (.inl x), some (.inl y), some (.inl z), none, none, none]) (st' := [.inl 2, .inr (.inr 106), .inl z]) rfl ?_
          refine jw_W_ia rfl rfl (by omega) (by omega) (by omega) ?_
          show jw_W (js_S n) _ md_303 25 [some (.inr (.inr 103)), some (.inl x), some (.inl y), some (.inl z), none, none, none] [.inl (σ 106 2), .inl z] σ _
          refine jw_W_ic rfl (by unfold jw_rg; omega) (by unfold jw_rg; omega) (fun hc7 => ?_) (fun hc7 => ?_)
          · have hc7 : z > (σ 106 2) := hc7
            refine jw_W_n 4 (i' := 32) (ls' := [some (.inr (.inr 103)), some (.inl x), some (.inl y), some (.inl z), some (.inl 0), some (.inl 0), none]) (st' := []) rfl ?_
            refine jm_allow_loop (D := 0) hP hi (fun m v hm => ?_) (σ 103 5).toNat (k := 0) (by omega) (by have := hP.2.2.1; omega) (.inr ⟨rfl, fun hh => by have := hh.1; unfold jm_bx1 at this; omega⟩)
            refine jw_W_n 1 (i' := 100) (ls' := [some (.inr (.inr 103)), some (.inl x), some (.inl y), some (.inl z), some (.inl m), some (.inl (σ 103 5)), v]) (st' := [.inl m]) rfl ?_
            refine jw_W_ir rfl ?_
            exact jm_am_end hP hi hm
          · have hc7 : ¬ (z > (σ 106 2)) := hc7
            refine jw_W_n 5 (i' := 32) (ls' := [some (.inr (.inr 103)), some (.inl x), some (.inl y), some (.inl z), some (.inl 1), some (.inl 0), none]) (st' := []) rfl ?_
            refine jm_allow_loop (D := 0) hP hi (fun m v hm => ?_) (σ 103 5).toNat (k := 0) (by omega) (by have := hP.2.2.1; omega) (.inl ⟨rfl, by unfold jm_bx1; omega, fun j j0 j1 => by omega⟩)
            refine jw_W_n 1 (i' := 100) (ls' := [some (.inr (.inr 103)), some (.inl x), some (.inl y), some (.inl z), some (.inl m), some (.inl (σ 103 5)), v]) (st' := [.inl m]) rfl ?_
            refine jw_W_ir rfl ?_
            exact jm_am_end hP hi hm

/-! ===== the reference's own small methods ===== -/
theorem jm_in {n : Nat} {σ : jw_H} {v lo hi : Int} (hv : jw_rg v) (h1 : jw_rg lo) (h2 : jw_rg hi) : jw_T (js_S n) 1 176 [.inl v, .inl lo, .inl hi] σ (fun r σ' => (r = some (.inl 1) ∧ σ' = σ ∧ lo ≤ v ∧ v ≤ hi) ∨ (r = some (.inl 0) ∧ σ' = σ ∧ ¬ (lo ≤ v ∧ v ≤ hi))) := by
  refine jw_T_of (D := 0) (M := mm_176) rfl (Nat.le_of_ble_eq_true rfl) (ls0 := [some (.inl v), some (.inl lo), some (.inl hi)]) rfl ?_ (by rintro _ _ (⟨rfl, -⟩ | ⟨rfl, -⟩) <;> rfl)
  unfold jw_rg at hv h1 h2
  refine jw_W_n 2 (i' := 2) (ls' := [some (.inl v), some (.inl lo), some (.inl hi)]) (st' := [.inl lo, .inl v]) rfl ?_
  refine jw_W_ic rfl (by unfold jw_rg; omega) (by unfold jw_rg; omega) (fun hc1 => ?_) (fun hc1 => ?_)
  · have hc1 : v < lo := hc1
    refine jw_W_n 1 (i' := 9) (ls' := [some (.inl v), some (.inl lo), some (.inl hi)]) (st' := [.inl 0]) rfl ?_
    refine jw_W_ir rfl ?_
    exact .inr ⟨rfl, rfl, by omega⟩
  · have hc1 : ¬ (v < lo) := hc1
    refine jw_W_n 2 (i' := 5) (ls' := [some (.inl v), some (.inl lo), some (.inl hi)]) (st' := [.inl hi, .inl v]) rfl ?_
    refine jw_W_ic rfl (by unfold jw_rg; omega) (by unfold jw_rg; omega) (fun hc2 => ?_) (fun hc2 => ?_)
    · have hc2 : v > hi := hc2
      refine jw_W_n 1 (i' := 9) (ls' := [some (.inl v), some (.inl lo), some (.inl hi)]) (st' := [.inl 0]) rfl ?_
      refine jw_W_ir rfl ?_
      exact .inr ⟨rfl, rfl, by omega⟩
    · have hc2 : ¬ (v > hi) := hc2
      refine jw_W_n 2 (i' := 9) (ls' := [some (.inl v), some (.inl lo), some (.inl hi)]) (st' := [.inl 1]) rfl ?_
      refine jw_W_ir rfl ?_
      exact .inl ⟨rfl, rfl, by omega, by omega⟩
theorem jm_has {n : Nat} {σ : jw_H} {x k : Int} (h0 : 0 ≤ x) (h1 : x ≤ 2147483647) (k0 : 0 ≤ k) (k1 : k < 31) : jw_T (js_S n) 1 179 [.inl x, .inl k] σ (fun r σ' => (r = some (.inl 1) ∧ σ' = σ ∧ jb_in x k.toNat) ∨ (r = some (.inl 0) ∧ σ' = σ ∧ ¬ jb_in x k.toNat)) := by
  refine jw_T_of (D := 0) (M := mm_179) rfl (Nat.le_of_ble_eq_true rfl) (ls0 := [some (.inl x), some (.inl k)]) rfl ?_ (by rintro _ _ (⟨rfl, -⟩ | ⟨rfl, -⟩) <;> rfl)
  refine jw_W_n 6 (i' := 6) (ls' := [some (.inl x), some (.inl k)]) (st' := [.inl 1, .inl (jw_and (jw_shr x k) 1)]) rfl ?_
  rw [jb_has h0 h1 k0 k1]
  by_cases hb : jb_in x k.toNat
  · rw [if_pos hb]
    refine jw_W_ic rfl (by unfold jw_rg; omega) (by unfold jw_rg; omega) (fun hc1 => ?_) (fun hc1 => ?_)
    · exact absurd hc1 (show ¬ ((1 : Int) ≠ 1) by omega)
    · clear hc1
      refine jw_W_n 2 (i' := 10) (ls' := [some (.inl x), some (.inl k)]) (st' := [.inl 1]) rfl ?_
      refine jw_W_ir rfl ?_
      exact .inl ⟨rfl, rfl, hb⟩
  · rw [if_neg hb]
    refine jw_W_ic rfl (by unfold jw_rg; omega) (by unfold jw_rg; omega) (fun hc2 => ?_) (fun hc2 => ?_)
    · clear hc2
      refine jw_W_n 1 (i' := 10) (ls' := [some (.inl x), some (.inl k)]) (st' := [.inl 0]) rfl ?_
      refine jw_W_ir rfl ?_
      exact .inr ⟨rfl, rfl, hb⟩
    · exact absurd hc2 (show ¬ ¬ ((0 : Int) ≠ 1) by omega)
theorem jm_lrem {x y : Int} (x0 : 0 ≤ x) (x1 : x ≤ 9223372036854775807) (y0 : 0 < y) (y1 : y ≤ 9223372036854775807) : jw_lrem x y = x % y := by
  unfold jw_lrem
  have e1 : Int64.ofInt x / Int64.ofInt y = Int64.ofInt (x.tdiv y) := (Int64.ofInt_tdiv (by show (-9223372036854775808 : Int) ≤ x; omega) (by show x ≤ (9223372036854775807 : Int); omega) (by show (-9223372036854775808 : Int) ≤ y; omega) (by show y ≤ (9223372036854775807 : Int); omega)).symm
  rw [e1, ← Int64.ofInt_mul, ← Int64.ofInt_sub]
  have e2 : x - x.tdiv y * y = x % y := by
    rw [Int.tdiv_eq_ediv_of_nonneg x0, Int.emod_def, Int.mul_comm]
  rw [e2]
  have h1 := Int.emod_nonneg x (show y ≠ 0 by omega)
  have h2 := Int.emod_lt_of_pos x y0
  exact jw_nl_id ⟨by omega, by omega⟩
theorem jm_ldiv {x y : Int} (x0 : jw_rgl x) (y0 : jw_rgl y) (h : ¬ (x = -9223372036854775808 ∧ y = -1)) : jw_ldiv x y = x.tdiv y := by
  unfold jw_ldiv
  obtain ⟨a, b⟩ := x0
  obtain ⟨c, d⟩ := y0
  have e1 : Int64.ofInt x / Int64.ofInt y = Int64.ofInt (x.tdiv y) := (Int64.ofInt_tdiv (by show (-9223372036854775808 : Int) ≤ x; omega) (by show x ≤ (9223372036854775807 : Int); omega) (by show (-9223372036854775808 : Int) ≤ y; omega) (by show y ≤ (9223372036854775807 : Int); omega)).symm
  rw [e1]
  refine jw_nl_id ?_
  have h1 : (x.tdiv y).natAbs ≤ x.natAbs := by
    rw [Int.natAbs_tdiv]
    exact Nat.div_le_self _ _
  by_cases hx : x = -9223372036854775808
  · subst hx
    by_cases hy : y = 1
    · subst hy
      rw [Int.tdiv_one]
      exact ⟨by omega, by omega⟩
    · have hy2 : y = 0 ∨ 2 ≤ y.natAbs := by omega
      rcases hy2 with rfl | hy2
      · rw [Int.tdiv_zero]
        exact ⟨by omega, by omega⟩
      · have h2 : (Int.tdiv (-9223372036854775808) y).natAbs ≤ 9223372036854775808 / 2 := by
          rw [Int.natAbs_tdiv]
          exact Nat.div_le_div_left hy2 (by decide)
        exact ⟨by omega, by omega⟩
  · exact ⟨by omega, by omega⟩
theorem jm_gcd_step {x y : Int} (x0 : 0 ≤ x) (y0 : 0 < y) : Int.gcd y (x % y) = Int.gcd x y := by
  obtain ⟨a, rfl⟩ := Int.eq_ofNat_of_zero_le x0
  obtain ⟨b, rfl⟩ := Int.eq_ofNat_of_zero_le (show 0 ≤ y by omega)
  rw [← Int.natCast_emod, Int.gcd_natCast_natCast, Int.gcd_natCast_natCast, Nat.gcd_comm b, ← Nat.gcd_rec, Nat.gcd_comm]
theorem jm_gcd_loop {n : Nat} {σ : jw_H} {D : Nat} {a b : Int} {Q : Option jw_V → jw_H → Prop} : ∀ (m : Nat) {x y : Int} {z : Option jw_V}, 0 ≤ x → x ≤ 9223372036854775807 → 0 ≤ y → y ≤ 9223372036854775807 → y.toNat < m → Q (some (.inr (.inl (Int.gcd x y : Int)))) σ → jw_W (js_S n) D md_181 18 [some (.inr (.inl a)), none, some (.inr (.inl b)), none, some (.inr (.inl x)), none, some (.inr (.inl y)), none, z, none] [] σ Q
  | 0, x, y, z, _, _, _, _, h, _ => absurd h (by omega)
  | m + 1, x, y, z, x0, x1, y0, y1, hm, hQ => by
    have ih := @jm_gcd_loop n σ D a b Q m
    refine jw_W_n 2 (i' := 20) (ls' := [some (.inr (.inl a)), none, some (.inr (.inl b)), none, some (.inr (.inl x)), none, some (.inr (.inl y)), none, z, none]) (st' := [.inr (.inl 0), .inr (.inl y)]) rfl ?_
    refine jw_W_lc rfl rfl (by unfold jw_rgl; omega) (by unfold jw_rgl; omega) (fun hc1 => ?_) (fun hc1 => ?_)
    · have hc1 : y = 0 := hc1
      refine jw_W_n 1 (i' := 32) (ls' := [some (.inr (.inl a)), none, some (.inr (.inl b)), none, some (.inr (.inl x)), none, some (.inr (.inl y)), none, z, none]) (st' := [.inr (.inl x)]) rfl ?_
      refine jw_W_lr rfl ?_
      subst hc1
      rw [Int.gcd_zero_right, Int.natAbs_of_nonneg x0] at hQ
      exact hQ
    · have hc1 : ¬ (y = 0) := hc1
      refine jw_W_n 2 (i' := 24) (ls' := [some (.inr (.inl a)), none, some (.inr (.inl b)), none, some (.inr (.inl x)), none, some (.inr (.inl y)), none, z, none]) (st' := [.inr (.inl y), .inr (.inl x)]) rfl ?_
      refine jw_W_lrem rfl (by unfold jw_rgl; omega) (by omega) ?_
      refine jw_W_n 6 (i' := 18) (ls' := [some (.inr (.inl a)), none, some (.inr (.inl b)), none, some (.inr (.inl y)), none, some (.inr (.inl (jw_lrem x y))), none, some (.inr (.inl (jw_lrem x y))), none]) (st' := []) rfl ?_
      rw [jm_lrem x0 x1 (by omega) y1]
      have e1 := Int.emod_nonneg x (show y ≠ 0 by omega)
      have e2 := Int.emod_lt_of_pos x (show 0 < y by omega)
      exact ih (by omega) y1 e1 (by omega) (by omega) (by rw [jm_gcd_step x0 (by omega)]; exact hQ)
theorem jm_gcd {n : Nat} {σ : jw_H} {a b : Int} (ha : jw_rgl a) (ha2 : a ≠ -9223372036854775808) (hb : jw_rgl b) (hb2 : b ≠ -9223372036854775808) : jw_T (js_S n) 1 181 [.inr (.inl a), .inr (.inl b)] σ (fun r σ' => r = some (.inr (.inl (Int.gcd a b : Int))) ∧ σ' = σ) := by
  refine jw_T_of (D := 0) (M := mm_181) rfl (Nat.le_of_ble_eq_true rfl) (ls0 := [some (.inr (.inl a)), none, some (.inr (.inl b)), none, none, none, none, none, none, none]) rfl ?_ (by rintro _ _ ⟨rfl, -⟩; rfl)
  unfold jw_rgl at ha hb
  refine jw_W_n 2 (i' := 2) (ls' := [some (.inr (.inl a)), none, some (.inr (.inl b)), none, none, none, none, none, none, none]) (st' := [.inr (.inl 0), .inr (.inl a)]) rfl ?_
  refine jw_W_lc rfl rfl (by unfold jw_rgl; omega) (by unfold jw_rgl; omega) (fun hc1 => ?_) (fun hc1 => ?_)
  · have hc1 : a ≥ 0 := hc1
    refine jw_W_n 4 (i' := 11) (ls' := [some (.inr (.inl a)), none, some (.inr (.inl b)), none, some (.inr (.inl a)), none, none, none, none, none]) (st' := [.inr (.inl 0), .inr (.inl b)]) rfl ?_
    refine jw_W_lc rfl rfl (by unfold jw_rgl; omega) (by unfold jw_rgl; omega) (fun hc2 => ?_) (fun hc2 => ?_)
    · have hc2 : b ≥ 0 := hc2
      refine jw_W_n 2 (i' := 18) (ls' := [some (.inr (.inl a)), none, some (.inr (.inl b)), none, some (.inr (.inl a)), none, some (.inr (.inl b)), none, none, none]) (st' := []) rfl ?_
      exact jm_gcd_loop _ (by omega) (by omega) (by omega) (by omega) (Nat.lt_succ_self _) ⟨by simp only [Int.gcd, Int.natAbs_neg], rfl⟩
    · have hc2 : ¬ (b ≥ 0) := hc2
      refine jw_W_n 4 (i' := 18) (ls' := [some (.inr (.inl a)), none, some (.inr (.inl b)), none, some (.inr (.inl a)), none, some (.inr (.inl ((-b)))), none, none, none]) (st' := []) rfl ?_
      exact jm_gcd_loop _ (by omega) (by omega) (by omega) (by omega) (Nat.lt_succ_self _) ⟨by simp only [Int.gcd, Int.natAbs_neg], rfl⟩
  · have hc1 : ¬ (a ≥ 0) := hc1
    refine jw_W_n 6 (i' := 11) (ls' := [some (.inr (.inl a)), none, some (.inr (.inl b)), none, some (.inr (.inl ((-a)))), none, none, none, none, none]) (st' := [.inr (.inl 0), .inr (.inl b)]) rfl ?_
    refine jw_W_lc rfl rfl (by unfold jw_rgl; omega) (by unfold jw_rgl; omega) (fun hc3 => ?_) (fun hc3 => ?_)
    · have hc3 : b ≥ 0 := hc3
      refine jw_W_n 2 (i' := 18) (ls' := [some (.inr (.inl a)), none, some (.inr (.inl b)), none, some (.inr (.inl ((-a)))), none, some (.inr (.inl b)), none, none, none]) (st' := []) rfl ?_
      exact jm_gcd_loop _ (by omega) (by omega) (by omega) (by omega) (Nat.lt_succ_self _) ⟨by simp only [Int.gcd, Int.natAbs_neg], rfl⟩
    · have hc3 : ¬ (b ≥ 0) := hc3
      refine jw_W_n 4 (i' := 18) (ls' := [some (.inr (.inl a)), none, some (.inr (.inl b)), none, some (.inr (.inl ((-a)))), none, some (.inr (.inl ((-b)))), none, none, none]) (st' := []) rfl ?_
      exact jm_gcd_loop _ (by omega) (by omega) (by omega) (by omega) (Nat.lt_succ_self _) ⟨by simp only [Int.gcd, Int.natAbs_neg], rfl⟩

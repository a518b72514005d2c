/-! ===== the reference's corners by a wish; which is above which ===== -/
/-- the corners in the store are no greater than this -/
def jm_cbd (σ : jw_H) : Prop := (0 ≤ σ 103 56 ∧ σ 103 56 ≤ 20) ∧ ∀ i, 0 ≤ i → i < σ 103 56 → jm_in4 1458 (jm_ct σ i) ∧ (jm_ct σ i).2.2.2 ≤ 162
theorem jm_f_w {σ : jw_H} {k i j : Int} (hP : jm_Pb σ) (hb : jm_cbd σ) (k0 : 0 ≤ k) (k1 : k < σ 103 4) (i0 : 0 ≤ i) (i1 : i < σ 103 56) (j0 : 0 ≤ j) (j1 : j < σ 103 56) : -2125764 ≤ ge_f (jm_W σ k) (jm_ct σ i) * σ 135 j ∧ ge_f (jm_W σ k) (jm_ct σ i) * σ 135 j ≤ 2125764 := by
  have h1 := jm_f_bd (jm_W_sm hP k0 k1) (hb.2 i i0 i1).1
  obtain ⟨h2, h3⟩ := hb.2 j j0 j1
  have h4 : 0 < σ 135 j := h2.2.2.2.1
  have h5 : σ 135 j ≤ 162 := h3
  have := jm_ab2 (a := ge_f (jm_W σ k) (jm_ct σ i)) (S := 13122) (X := 162) (x := σ 135 j) (by omega) (by omega) (by omega) (by omega) h5
  omega
theorem jm_byWish {n : Nat} {σ : jw_H} {k i j : Int} (hP : jm_Pb σ) (hb : jm_cbd σ) (k0 : 0 ≤ k) (k1 : k < σ 103 4) (i0 : 0 ≤ i) (i1 : i < σ 103 56) (j0 : 0 ≤ j) (j1 : j < σ 103 56) : jw_T (js_S n) 2 254 [.inr (.inr 103), .inl k, .inl i, .inl j] σ (fun r σ' => (r = some (.inl (-1)) ∧ σ' = σ ∧ ge_f (jm_W σ k) (jm_ct σ i) * σ 135 j < ge_f (jm_W σ k) (jm_ct σ j) * σ 135 i) ∨ (r = some (.inl 1) ∧ σ' = σ ∧ ge_f (jm_W σ k) (jm_ct σ j) * σ 135 i < ge_f (jm_W σ k) (jm_ct σ i) * σ 135 j) ∨ (r = some (.inl 0) ∧ σ' = σ ∧ ge_f (jm_W σ k) (jm_ct σ i) * σ 135 j = ge_f (jm_W σ k) (jm_ct σ j) * σ 135 i)) := by
  refine jw_T_of (D := 1) (M := mm_254) rfl (Nat.le_of_ble_eq_true rfl) (ls0 := [some (.inr (.inr 103)), some (.inl k), some (.inl i), some (.inl j)]) rfl ?_ (by rintro _ _ (⟨rfl, -⟩ | ⟨rfl, -⟩ | ⟨rfl, -⟩) <;> rfl)
  have bm := hb.1
  have m1 := jm_f_w hP hb k0 k1 i0 i1 j0 j1
  have m2 := jm_f_w hP hb k0 k1 j0 j1 i0 i1
  refine jw_W_n 3 (i' := 3) (ls' := [some (.inr (.inr 103)), some (.inl k), some (.inl i), some (.inl j)]) (st' := [.inr (.inr 103), .inl k, .inr (.inr 103)]) rfl ?_
  refine jw_W_gf rfl rfl rfl ?_
  show jw_W (js_S n) _ md_254 4 [some (.inr (.inr 103)), some (.inl k), some (.inl i), some (.inl j)] [.inr (.inr 132), .inl k, .inr (.inr 103)] σ _
  refine jw_W_n 1 (i' := 5) (ls' := [some (.inr (.inr 103)), some (.inl k), some (.inl i), some (.inl j)]) (st' := [.inl i, .inr (.inr 132), .inl k, .inr (.inr 103)]) rfl ?_
  refine jw_W_la rfl rfl (by omega) (by omega) (by omega) ?_
  show jw_W (js_S n) _ md_254 6 [some (.inr (.inr 103)), some (.inl k), some (.inl i), some (.inl j)] [.inr (.inl (σ 132 i)), .inl k, .inr (.inr 103)] σ _
  refine jw_W_n 1 (i' := 7) (ls' := [some (.inr (.inr 103)), some (.inl k), some (.inl i), some (.inl j)]) (st' := [.inr (.inr 103), .inr (.inl (σ 132 i)), .inl k, .inr (.inr 103)]) rfl ?_
  refine jw_W_gf rfl rfl rfl ?_
  show jw_W (js_S n) _ md_254 8 [some (.inr (.inr 103)), some (.inl k), some (.inl i), some (.inl j)] [.inr (.inr 133), .inr (.inl (σ 132 i)), .inl k, .inr (.inr 103)] σ _
  refine jw_W_n 1 (i' := 9) (ls' := [some (.inr (.inr 103)), some (.inl k), some (.inl i), some (.inl j)]) (st' := [.inl i, .inr (.inr 133), .inr (.inl (σ 132 i)), .inl k, .inr (.inr 103)]) rfl ?_
  refine jw_W_la rfl rfl (by omega) (by omega) (by omega) ?_
  show jw_W (js_S n) _ md_254 10 [some (.inr (.inr 103)), some (.inl k), some (.inl i), some (.inl j)] [.inr (.inl (σ 133 i)), .inr (.inl (σ 132 i)), .inl k, .inr (.inr 103)] σ _
  refine jw_W_n 1 (i' := 11) (ls' := [some (.inr (.inr 103)), some (.inl k), some (.inl i), some (.inl j)]) (st' := [.inr (.inr 103), .inr (.inl (σ 133 i)), .inr (.inl (σ 132 i)), .inl k, .inr (.inr 103)]) rfl ?_
  refine jw_W_gf rfl rfl rfl ?_
  show jw_W (js_S n) _ md_254 12 [some (.inr (.inr 103)), some (.inl k), some (.inl i), some (.inl j)] [.inr (.inr 134), .inr (.inl (σ 133 i)), .inr (.inl (σ 132 i)), .inl k, .inr (.inr 103)] σ _
  refine jw_W_n 1 (i' := 13) (ls' := [some (.inr (.inr 103)), some (.inl k), some (.inl i), some (.inl j)]) (st' := [.inl i, .inr (.inr 134), .inr (.inl (σ 133 i)), .inr (.inl (σ 132 i)), .inl k, .inr (.inr 103)]) rfl ?_
  refine jw_W_la rfl rfl (by omega) (by omega) (by omega) ?_
  show jw_W (js_S n) _ md_254 14 [some (.inr (.inr 103)), some (.inl k), some (.inl i), some (.inl j)] [.inr (.inl (σ 134 i)), .inr (.inl (σ 133 i)), .inr (.inl (σ 132 i)), .inl k, .inr (.inr 103)] σ _
  refine jw_W_call (as := [.inr (.inr 103), .inl k, .inr (.inl (σ 132 i)), .inr (.inl (σ 133 i)), .inr (.inl (σ 134 i))]) (rest := []) rfl rfl rfl rfl (Nat.le_of_ble_eq_true rfl) (.inr rfl) (jm_wished hP k0 k1) (by omega) ?_ rfl
  rintro r1 σ1 ⟨rfl, hs⟩
  rw [hs]
  show jw_W (js_S n) _ md_254 15 [some (.inr (.inr 103)), some (.inl k), some (.inl i), some (.inl j)] [.inr (.inl (ge_f (jm_W σ k) (jm_ct σ i)))] σ _
  refine jw_W_n 1 (i' := 16) (ls' := [some (.inr (.inr 103)), some (.inl k), some (.inl i), some (.inl j)]) (st' := [.inr (.inr 103), .inr (.inl (ge_f (jm_W σ k) (jm_ct σ i)))]) rfl ?_
  refine jw_W_gf rfl rfl rfl ?_
  show jw_W (js_S n) _ md_254 17 [some (.inr (.inr 103)), some (.inl k), some (.inl i), some (.inl j)] [.inr (.inr 135), .inr (.inl (ge_f (jm_W σ k) (jm_ct σ i)))] σ _
  refine jw_W_n 1 (i' := 18) (ls' := [some (.inr (.inr 103)), some (.inl k), some (.inl i), some (.inl j)]) (st' := [.inl j, .inr (.inr 135), .inr (.inl (ge_f (jm_W σ k) (jm_ct σ i)))]) rfl ?_
  refine jw_W_la rfl rfl (by omega) (by omega) (by omega) ?_
  show jw_W (js_S n) _ md_254 19 [some (.inr (.inr 103)), some (.inl k), some (.inl i), some (.inl j)] [.inr (.inl (σ 135 j)), .inr (.inl (ge_f (jm_W σ k) (jm_ct σ i)))] σ _
  refine jw_W_n 4 (i' := 23) (ls' := [some (.inr (.inr 103)), some (.inl k), some (.inl i), some (.inl j)]) (st' := [.inr (.inr 103), .inl k, .inr (.inr 103), .inr (.inl ((ge_f (jm_W σ k) (jm_ct σ i)) * (σ 135 j)))]) rfl ?_
  refine jw_W_gf rfl rfl rfl ?_
  show jw_W (js_S n) _ md_254 24 [some (.inr (.inr 103)), some (.inl k), some (.inl i), some (.inl j)] [.inr (.inr 132), .inl k, .inr (.inr 103), .inr (.inl ((ge_f (jm_W σ k) (jm_ct σ i)) * (σ 135 j)))] σ _
  refine jw_W_n 1 (i' := 25) (ls' := [some (.inr (.inr 103)), some (.inl k), some (.inl i), some (.inl j)]) (st' := [.inl j, .inr (.inr 132), .inl k, .inr (.inr 103), .inr (.inl ((ge_f (jm_W σ k) (jm_ct σ i)) * (σ 135 j)))]) rfl ?_
  refine jw_W_la rfl rfl (by omega) (by omega) (by omega) ?_
  show jw_W (js_S n) _ md_254 26 [some (.inr (.inr 103)), some (.inl k), some (.inl i), some (.inl j)] [.inr (.inl (σ 132 j)), .inl k, .inr (.inr 103), .inr (.inl ((ge_f (jm_W σ k) (jm_ct σ i)) * (σ 135 j)))] σ _
  refine jw_W_n 1 (i' := 27) (ls' := [some (.inr (.inr 103)), some (.inl k), some (.inl i), some (.inl j)]) (st' := [.inr (.inr 103), .inr (.inl (σ 132 j)), .inl k, .inr (.inr 103), .inr (.inl ((ge_f (jm_W σ k) (jm_ct σ i)) * (σ 135 j)))]) rfl ?_
  refine jw_W_gf rfl rfl rfl ?_
  show jw_W (js_S n) _ md_254 28 [some (.inr (.inr 103)), some (.inl k), some (.inl i), some (.inl j)] [.inr (.inr 133), .inr (.inl (σ 132 j)), .inl k, .inr (.inr 103), .inr (.inl ((ge_f (jm_W σ k) (jm_ct σ i)) * (σ 135 j)))] σ _
  refine jw_W_n 1 (i' := 29) (ls' := [some (.inr (.inr 103)), some (.inl k), some (.inl i), some (.inl j)]) (st' := [.inl j, .inr (.inr 133), .inr (.inl (σ 132 j)), .inl k, .inr (.inr 103), .inr (.inl ((ge_f (jm_W σ k) (jm_ct σ i)) * (σ 135 j)))]) rfl ?_
  refine jw_W_la rfl rfl (by omega) (by omega) (by omega) ?_
  show jw_W (js_S n) _ md_254 30 [some (.inr (.inr 103)), some (.inl k), some (.inl i), some (.inl j)] [.inr (.inl (σ 133 j)), .inr (.inl (σ 132 j)), .inl k, .inr (.inr 103), .inr (.inl ((ge_f (jm_W σ k) (jm_ct σ i)) * (σ 135 j)))] σ _
  refine jw_W_n 1 (i' := 31) (ls' := [some (.inr (.inr 103)), some (.inl k), some (.inl i), some (.inl j)]) (st' := [.inr (.inr 103), .inr (.inl (σ 133 j)), .inr (.inl (σ 132 j)), .inl k, .inr (.inr 103), .inr (.inl ((ge_f (jm_W σ k) (jm_ct σ i)) * (σ 135 j)))]) rfl ?_
  refine jw_W_gf rfl rfl rfl ?_
  show jw_W (js_S n) _ md_254 32 [some (.inr (.inr 103)), some (.inl k), some (.inl i), some (.inl j)] [.inr (.inr 134), .inr (.inl (σ 133 j)), .inr (.inl (σ 132 j)), .inl k, .inr (.inr 103), .inr (.inl ((ge_f (jm_W σ k) (jm_ct σ i)) * (σ 135 j)))] σ _
  refine jw_W_n 1 (i' := 33) (ls' := [some (.inr (.inr 103)), some (.inl k), some (.inl i), some (.inl j)]) (st' := [.inl j, .inr (.inr 134), .inr (.inl (σ 133 j)), .inr (.inl (σ 132 j)), .inl k, .inr (.inr 103), .inr (.inl ((ge_f (jm_W σ k) (jm_ct σ i)) * (σ 135 j)))]) rfl ?_
  refine jw_W_la rfl rfl (by omega) (by omega) (by omega) ?_
  show jw_W (js_S n) _ md_254 34 [some (.inr (.inr 103)), some (.inl k), some (.inl i), some (.inl j)] [.inr (.inl (σ 134 j)), .inr (.inl (σ 133 j)), .inr (.inl (σ 132 j)), .inl k, .inr (.inr 103), .inr (.inl ((ge_f (jm_W σ k) (jm_ct σ i)) * (σ 135 j)))] σ _
  refine jw_W_call (as := [.inr (.inr 103), .inl k, .inr (.inl (σ 132 j)), .inr (.inl (σ 133 j)), .inr (.inl (σ 134 j))]) (rest := [.inr (.inl ((ge_f (jm_W σ k) (jm_ct σ i)) * (σ 135 j)))]) rfl rfl rfl rfl (Nat.le_of_ble_eq_true rfl) (.inr rfl) (jm_wished hP k0 k1) (by omega) ?_ rfl
  rintro r1 σ1 ⟨rfl, hs⟩
  rw [hs]
  show jw_W (js_S n) _ md_254 35 [some (.inr (.inr 103)), some (.inl k), some (.inl i), some (.inl j)] [.inr (.inl (ge_f (jm_W σ k) (jm_ct σ j))), .inr (.inl ((ge_f (jm_W σ k) (jm_ct σ i)) * (σ 135 j)))] σ _
  refine jw_W_n 1 (i' := 36) (ls' := [some (.inr (.inr 103)), some (.inl k), some (.inl i), some (.inl j)]) (st' := [.inr (.inr 103), .inr (.inl (ge_f (jm_W σ k) (jm_ct σ j))), .inr (.inl ((ge_f (jm_W σ k) (jm_ct σ i)) * (σ 135 j)))]) rfl ?_
  refine jw_W_gf rfl rfl rfl ?_
  show jw_W (js_S n) _ md_254 37 [some (.inr (.inr 103)), some (.inl k), some (.inl i), some (.inl j)] [.inr (.inr 135), .inr (.inl (ge_f (jm_W σ k) (jm_ct σ j))), .inr (.inl ((ge_f (jm_W σ k) (jm_ct σ i)) * (σ 135 j)))] σ _
  refine jw_W_n 1 (i' := 38) (ls' := [some (.inr (.inr 103)), some (.inl k), some (.inl i), some (.inl j)]) (st' := [.inl i, .inr (.inr 135), .inr (.inl (ge_f (jm_W σ k) (jm_ct σ j))), .inr (.inl ((ge_f (jm_W σ k) (jm_ct σ i)) * (σ 135 j)))]) rfl ?_
  refine jw_W_la rfl rfl (by omega) (by omega) (by omega) ?_
  show jw_W (js_S n) _ md_254 39 [some (.inr (.inr 103)), some (.inl k), some (.inl i), some (.inl j)] [.inr (.inl (σ 135 i)), .inr (.inl (ge_f (jm_W σ k) (jm_ct σ j))), .inr (.inl ((ge_f (jm_W σ k) (jm_ct σ i)) * (σ 135 j)))] σ _
  refine jw_W_n 1 (i' := 40) (ls' := [some (.inr (.inr 103)), some (.inl k), some (.inl i), some (.inl j)]) (st' := [.inr (.inl ((ge_f (jm_W σ k) (jm_ct σ j)) * (σ 135 i))), .inr (.inl ((ge_f (jm_W σ k) (jm_ct σ i)) * (σ 135 j)))]) rfl ?_
  refine jw_W_call (as := [.inr (.inl ((ge_f (jm_W σ k) (jm_ct σ i)) * (σ 135 j))), .inr (.inl ((ge_f (jm_W σ k) (jm_ct σ j)) * (σ 135 i)))]) (rest := []) rfl rfl rfl rfl (Nat.le_of_ble_eq_true rfl) (.inl rfl) (jm_compared (by unfold jw_rgl; omega) (by unfold jw_rgl; omega)) (by omega) ?_ rfl
  rintro r1 σ1 (⟨rfl, hs, q1⟩ | ⟨rfl, hs, q1⟩ | ⟨rfl, hs, q1⟩)
  · rw [hs]
    show jw_W (js_S n) _ md_254 41 [some (.inr (.inr 103)), some (.inl k), some (.inl i), some (.inl j)] [.inl ((-1))] σ _
    refine jw_W_ir rfl ?_
    exact .inl ⟨rfl, rfl, by assumption⟩
  · rw [hs]
    show jw_W (js_S n) _ md_254 41 [some (.inr (.inr 103)), some (.inl k), some (.inl i), some (.inl j)] [.inl 1] σ _
    refine jw_W_ir rfl ?_
    exact .inr (.inl ⟨rfl, rfl, by assumption⟩)
  · rw [hs]
    show jw_W (js_S n) _ md_254 41 [some (.inr (.inr 103)), some (.inl k), some (.inl i), some (.inl j)] [.inl 0] σ _
    refine jw_W_ir rfl ?_
    exact .inr (.inr ⟨rfl, rfl, by assumption⟩)
def jm_kb (σ : jw_H) (i j k : Int) : Prop := ge_f (jm_W σ k) (jm_ct σ j) * σ 135 i < ge_f (jm_W σ k) (jm_ct σ i) * σ 135 j
def jm_kl (σ : jw_H) (i j k : Int) : Prop := ge_f (jm_W σ k) (jm_ct σ j) * σ 135 i ≤ ge_f (jm_W σ k) (jm_ct σ i) * σ 135 j
def jm_bo (σ : jw_H) (i j t m : Int) : Prop := (∀ k, 0 ≤ k → k < t → jm_kl σ i j k) ∧ ((m = 1 ∧ ∃ k, 0 ≤ k ∧ k < t ∧ jm_kb σ i j k) ∨ (m = 0 ∧ ∀ k, 0 ≤ k → k < t → ¬ jm_kb σ i j k))
theorem jm_bo_1 {σ : jw_H} {i j t m : Int} (t0 : 0 ≤ t) (h : jm_bo σ i j t m) (hl : jm_kl σ i j t) (hc : m ≠ 0 ∨ jm_kb σ i j t) : jm_bo σ i j (t + 1) 1 := by
  obtain ⟨h1, h⟩ := h
  refine ⟨fun k k0 k1 => ?_, ?_⟩
  · by_cases e : k = t
    · rw [e]
      exact hl
    · exact h1 k k0 (by omega)
  · rcases h with ⟨-, j, j0, j1, h⟩ | ⟨h0, -⟩
    · exact .inl ⟨rfl, j, j0, by omega, h⟩
    · rcases hc with hc | hc
      · exact absurd h0 hc
      · exact .inl ⟨rfl, t, t0, by omega, hc⟩
theorem jm_bo_0 {σ : jw_H} {i j t m : Int} (h : jm_bo σ i j t m) (hl : jm_kl σ i j t) (hm : m = 0) (hc : ¬ jm_kb σ i j t) : jm_bo σ i j (t + 1) 0 := by
  obtain ⟨h1, h⟩ := h
  refine ⟨fun k k0 k1 => ?_, ?_⟩
  · by_cases e : k = t
    · rw [e]
      exact hl
    · exact h1 k k0 (by omega)
  · rcases h with ⟨h2, -⟩ | ⟨-, h⟩
    · omega
    · refine .inr ⟨rfl, fun k k0 k1 => ?_⟩
      by_cases e : k = t
      · rw [e]
        exact hc
      · exact h k k0 (by omega)
theorem jm_above {σ : jw_H} {i j : Int} : ge_bt (jm_F σ) (jm_ct σ j) (jm_ct σ i) ↔ (∀ k, 0 ≤ k → k < σ 103 4 → jm_kl σ i j k) ∧ ∃ k, 0 ≤ k ∧ k < σ 103 4 ∧ jm_kb σ i j k := by
  have mem : ∀ k : Int, 0 ≤ k → k < σ 103 4 → jm_W σ k ∈ jm_F σ := fun k k0 k1 => by
    unfold jm_F
    exact List.mem_map.mpr ⟨k.toNat, List.mem_range.mpr (by omega), by rw [Int.toNat_of_nonneg k0]⟩
  constructor
  · rintro ⟨h1, f, hf, h2⟩
    obtain ⟨k, k0, k1, rfl⟩ := jm_F_mem hf
    exact ⟨fun k k0 k1 => h1 _ (mem k k0 k1), k, k0, k1, h2⟩
  · rintro ⟨h1, k, k0, k1, h2⟩
    refine ⟨fun f hf => ?_, _, mem k k0 k1, h2⟩
    obtain ⟨k, k0, k1, rfl⟩ := jm_F_mem hf
    exact h1 k k0 k1
theorem jm_bo_end {σ : jw_H} {i j m : Int} (hI : jm_bo σ i j (σ 103 4) m) : (some (.inl m : jw_V) = some (.inl 1) ∧ σ = σ ∧ ge_bt (jm_F σ) (jm_ct σ j) (jm_ct σ i)) ∨ (some (.inl m : jw_V) = some (.inl 0) ∧ σ = σ ∧ ¬ ge_bt (jm_F σ) (jm_ct σ j) (jm_ct σ i)) := by
  obtain ⟨h1, ⟨rfl, h⟩ | ⟨rfl, h⟩⟩ := hI
  · exact .inl ⟨rfl, rfl, jm_above.mpr ⟨h1, h⟩⟩
  · refine .inr ⟨rfl, rfl, fun hw => ?_⟩
    obtain ⟨-, k, k0, k1, h2⟩ := jm_above.mp hw
    exact h k k0 k1 h2
theorem jm_above_loop {n : Nat} {σ : jw_H} {i j : Int} (hP : jm_Pb σ) (hb : jm_cbd σ) (i0 : 0 ≤ i) (i1 : i < σ 103 56) (j0 : 0 ≤ j) (j1 : j < σ 103 56) : ∀ (f : Nat) {t m : Int} {v : Option jw_V}, 0 ≤ t → t + f = σ 103 4 → jm_bo σ i j t m → jw_W (js_S n) 2 md_255 4 [some (.inr (.inr 103)), some (.inl i), some (.inl j), some (.inl m), some (.inl t), v] [] σ (fun r σ' => (r = some (.inl 1) ∧ σ' = σ ∧ ge_bt (jm_F σ) (jm_ct σ j) (jm_ct σ i)) ∨ (r = some (.inl 0) ∧ σ' = σ ∧ ¬ ge_bt (jm_F σ) (jm_ct σ j) (jm_ct σ i)))
  | f, t, m, v, t0, hk, hI => by
    have ih : ∀ {m' : Int} {v' : Option jw_V}, t < σ 103 4 → jm_bo σ i j (t + 1) m' → jw_W (js_S n) 2 md_255 4 [some (.inr (.inr 103)), some (.inl i), some (.inl j), some (.inl m'), some (.inl (t + 1)), v'] [] σ (fun r σ' => (r = some (.inl 1) ∧ σ' = σ ∧ ge_bt (jm_F σ) (jm_ct σ j) (jm_ct σ i)) ∨ (r = some (.inl 0) ∧ σ' = σ ∧ ¬ ge_bt (jm_F σ) (jm_ct σ j) (jm_ct σ i))) := by
      intro m' v' h1 h2
      match f, hk with
      | 0, hk => omega
      | f + 1, hk => exact jm_above_loop hP hb i0 i1 j0 j1 f (by omega) (by omega) h2
    have pw := hP.2.1
    have bm := hb.1
    have m01 : m = 0 ∨ m = 1 := by
      rcases hI.2 with ⟨h, -⟩ | ⟨h, -⟩
      · exact .inr h
      · exact .inl h
    refine jw_W_n 2 (i' := 6) (ls' := [some (.inr (.inr 103)), some (.inl i), some (.inl j), some (.inl m), some (.inl t), v]) (st' := [.inr (.inr 103), .inl t]) rfl ?_
    refine jw_W_gf rfl rfl rfl ?_
    show jw_W (js_S n) _ md_255 7 [some (.inr (.inr 103)), some (.inl i), some (.inl j), some (.inl m), some (.inl t), v] [.inl (σ 103 4), .inl t] σ _
    refine jw_W_ic rfl (by unfold jw_rg; omega) (by unfold jw_rg; omega) (fun hc1 => ?_) (fun hc1 => ?_)
    · have hc1 : t ≥ (σ 103 4) := hc1
      refine jw_W_n 1 (i' := 29) (ls' := [some (.inr (.inr 103)), some (.inl i), some (.inl j), some (.inl m), some (.inl t), v]) (st' := [.inl m]) rfl ?_
      refine jw_W_ir rfl ?_
      have htl : t = σ 103 4 := by omega
      subst htl
      exact jm_bo_end hI
    · have hc1 : ¬ (t ≥ (σ 103 4)) := hc1
      refine jw_W_n 4 (i' := 12) (ls' := [some (.inr (.inr 103)), some (.inl i), some (.inl j), some (.inl m), some (.inl t), v]) (st' := [.inl j, .inl i, .inl t, .inr (.inr 103)]) rfl ?_
      refine jw_W_call (as := [.inr (.inr 103), .inl t, .inl i, .inl j]) (rest := []) rfl rfl rfl rfl (Nat.le_of_ble_eq_true rfl) (.inr rfl) (jm_byWish hP hb t0 (by omega) i0 i1 j0 j1) (by omega) ?_ rfl
      rintro r1 σ1 (⟨rfl, hs, q2⟩ | ⟨rfl, hs, q2⟩ | ⟨rfl, hs, q2⟩)
      · rw [hs]
        show jw_W (js_S n) _ md_255 13 [some (.inr (.inr 103)), some (.inl i), some (.inl j), some (.inl m), some (.inl t), v] [.inl ((-1))] σ _
        refine jw_W_n 2 (i' := 15) (ls' := [some (.inr (.inr 103)), some (.inl i), some (.inl j), some (.inl m), some (.inl t), some (.inl ((-1)))]) (st' := [.inl ((-1))]) rfl ?_
        refine jw_W_if rfl (by unfold jw_rg; omega) (fun hc2 => ?_) (fun hc2 => ?_)
        · exact absurd hc2 (show ¬ ((((-1 : Int))) ≥ 0) by omega)
        · clear hc2
          refine jw_W_n 1 (i' := 17) (ls' := [some (.inr (.inr 103)), some (.inl i), some (.inl j), some (.inl m), some (.inl t), some (.inl ((-1)))]) (st' := [.inl 0]) rfl ?_
          refine jw_W_ir rfl ?_
          refine .inr ⟨rfl, rfl, fun hw => ?_⟩
          have h9 := (jm_above.mp hw).1 t t0 (by omega)
          unfold jm_kl at h9
          omega
      · rw [hs]
        show jw_W (js_S n) _ md_255 13 [some (.inr (.inr 103)), some (.inl i), some (.inl j), some (.inl m), some (.inl t), v] [.inl 1] σ _
        refine jw_W_n 2 (i' := 15) (ls' := [some (.inr (.inr 103)), some (.inl i), some (.inl j), some (.inl m), some (.inl t), some (.inl 1)]) (st' := [.inl 1]) rfl ?_
        refine jw_W_if rfl (by unfold jw_rg; omega) (fun hc3 => ?_) (fun hc3 => ?_)
        · clear hc3
          refine jw_W_n 1 (i' := 19) (ls' := [some (.inr (.inr 103)), some (.inl i), some (.inl j), some (.inl m), some (.inl t), some (.inl 1)]) (st' := [.inl m]) rfl ?_
          refine jw_W_if rfl (by unfold jw_rg; omega) (fun hc4 => ?_) (fun hc4 => ?_)
          · have hc4 : m ≠ 0 := hc4
            refine jw_W_n 5 (i' := 4) (ls' := [some (.inr (.inr 103)), some (.inl i), some (.inl j), some (.inl 1), some (.inl (t + 1)), some (.inl 1)]) (st' := []) rfl ?_
            exact ih (by omega) (jm_bo_1 t0 hI (by unfold jm_kl; omega) (by first | exact .inl (by assumption) | exact .inr (by unfold jm_kb; omega)))
          · have hc4 : m = 0 := Classical.not_not.mp hc4
            refine jw_W_n 1 (i' := 21) (ls' := [some (.inr (.inr 103)), some (.inl i), some (.inl j), some (.inl m), some (.inl t), some (.inl 1)]) (st' := [.inl 1]) rfl ?_
            refine jw_W_if rfl (by unfold jw_rg; omega) (fun hc5 => ?_) (fun hc5 => ?_)
            · exact absurd hc5 (show ¬ ((1 : Int) ≤ 0) by omega)
            · clear hc5
              refine jw_W_n 5 (i' := 4) (ls' := [some (.inr (.inr 103)), some (.inl i), some (.inl j), some (.inl 1), some (.inl (t + 1)), some (.inl 1)]) (st' := []) rfl ?_
              exact ih (by omega) (jm_bo_1 t0 hI (by unfold jm_kl; omega) (by first | exact .inl (by assumption) | exact .inr (by unfold jm_kb; omega)))
        · exact absurd hc3 (show ¬ ¬ ((1 : Int) ≥ 0) by omega)
      · rw [hs]
        show jw_W (js_S n) _ md_255 13 [some (.inr (.inr 103)), some (.inl i), some (.inl j), some (.inl m), some (.inl t), v] [.inl 0] σ _
        refine jw_W_n 2 (i' := 15) (ls' := [some (.inr (.inr 103)), some (.inl i), some (.inl j), some (.inl m), some (.inl t), some (.inl 0)]) (st' := [.inl 0]) rfl ?_
        refine jw_W_if rfl (by unfold jw_rg; omega) (fun hc6 => ?_) (fun hc6 => ?_)
        · clear hc6
          refine jw_W_n 1 (i' := 19) (ls' := [some (.inr (.inr 103)), some (.inl i), some (.inl j), some (.inl m), some (.inl t), some (.inl 0)]) (st' := [.inl m]) rfl ?_
          refine jw_W_if rfl (by unfold jw_rg; omega) (fun hc7 => ?_) (fun hc7 => ?_)
          · have hc7 : m ≠ 0 := hc7
            refine jw_W_n 5 (i' := 4) (ls' := [some (.inr (.inr 103)), some (.inl i), some (.inl j), some (.inl 1), some (.inl (t + 1)), some (.inl 0)]) (st' := []) rfl ?_
            exact ih (by omega) (jm_bo_1 t0 hI (by unfold jm_kl; omega) (by first | exact .inl (by assumption) | exact .inr (by unfold jm_kb; omega)))
          · have hc7 : m = 0 := Classical.not_not.mp hc7
            refine jw_W_n 1 (i' := 21) (ls' := [some (.inr (.inr 103)), some (.inl i), some (.inl j), some (.inl m), some (.inl t), some (.inl 0)]) (st' := [.inl 0]) rfl ?_
            refine jw_W_if rfl (by unfold jw_rg; omega) (fun hc8 => ?_) (fun hc8 => ?_)
            · clear hc8
              refine jw_W_n 4 (i' := 4) (ls' := [some (.inr (.inr 103)), some (.inl i), some (.inl j), some (.inl 0), some (.inl (t + 1)), some (.inl 0)]) (st' := []) rfl ?_
              exact ih (by omega) (jm_bo_0 hI (by unfold jm_kl; omega) (by omega) (by unfold jm_kb; omega))
            · exact absurd hc8 (show ¬ ¬ ((0 : Int) ≤ 0) by omega)
        · exact absurd hc6 (show ¬ ¬ ((0 : Int) ≥ 0) by omega)
theorem jm_isAbove {n : Nat} {σ : jw_H} {i j : Int} (hP : jm_Pb σ) (hb : jm_cbd σ) (i0 : 0 ≤ i) (i1 : i < σ 103 56) (j0 : 0 ≤ j) (j1 : j < σ 103 56) : jw_T (js_S n) 3 255 [.inr (.inr 103), .inl i, .inl j] σ (fun r σ' => (r = some (.inl 1) ∧ σ' = σ ∧ ge_bt (jm_F σ) (jm_ct σ j) (jm_ct σ i)) ∨ (r = some (.inl 0) ∧ σ' = σ ∧ ¬ ge_bt (jm_F σ) (jm_ct σ j) (jm_ct σ i))) := by
  refine jw_T_of (D := 2) (M := mm_255) rfl (Nat.le_of_ble_eq_true rfl) (ls0 := [some (.inr (.inr 103)), some (.inl i), some (.inl j), none, none, none]) rfl ?_ (by rintro _ _ (⟨rfl, -⟩ | ⟨rfl, -⟩) <;> rfl)
  refine jw_W_n 4 (i' := 4) (ls' := [some (.inr (.inr 103)), some (.inl i), some (.inl j), some (.inl 0), some (.inl 0), none]) (st' := []) rfl ?_
  exact jm_above_loop hP hb i0 i1 j0 j1 (σ 103 4).toNat (t := 0) (by omega) (by have := hP.2.1; omega) ⟨fun k a b => by omega, .inr ⟨rfl, fun k a b => by omega⟩⟩

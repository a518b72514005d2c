/-! ===== the reference's planes ===== -/
theorem jm_rem {x y : Int} (x0 : 0 ≤ x) (x1 : x ≤ 2147483647) (y0 : 0 < y) (y1 : y ≤ 2147483647) : jw_rem x y = x % y := by
  unfold jw_rem
  have e1 : Int32.ofInt x / Int32.ofInt y = Int32.ofInt (x.tdiv y) := (Int32.ofInt_tdiv (by show (-2147483648 : Int) ≤ x; omega) (by show x ≤ (2147483647 : Int); omega) (by show (-2147483648 : Int) ≤ y; omega) (by show y ≤ (2147483647 : Int); omega)).symm
  rw [e1, ← Int32.ofInt_mul, ← Int32.ofInt_sub]
  have e2 : x - x.tdiv y * y = x % y := by
    rw [Int.tdiv_eq_ediv_of_nonneg x0, Int.emod_def, Int.mul_comm]
  rw [e2]
  have h1 := Int.emod_nonneg x (show y ≠ 0 by omega)
  have h2 := Int.emod_lt_of_pos x y0
  exact jw_n_id ⟨by omega, by omega⟩
/-- the problem in the store -/
def jm_Pb (σ : jw_H) : Prop := (1 ≤ σ 103 3 ∧ σ 103 3 ≤ 3) ∧ (0 ≤ σ 103 4 ∧ σ 103 4 ≤ 3) ∧ (0 ≤ σ 103 5 ∧ σ 103 5 ≤ 4) ∧ (∀ k, 0 ≤ k → k < σ 103 5 → (∀ j, 0 ≤ j → j < 3 → -3 ≤ σ 105 (5 * k + j) ∧ σ 105 (5 * k + j) ≤ 3 ∧ (σ 103 3 ≤ j → σ 105 (5 * k + j) = 0)) ∧ (0 ≤ σ 105 (5 * k + 3) ∧ σ 105 (5 * k + 3) ≤ 99) ∧ (0 ≤ σ 105 (5 * k + 4) ∧ σ 105 (5 * k + 4) ≤ 1)) ∧ (∀ j, 0 ≤ j → j < 3 → 1 ≤ σ 106 j ∧ σ 106 j ≤ 9) ∧ ∀ w, 0 ≤ w → w < σ 103 4 → ∀ j, 0 ≤ j → j < 3 → -3 ≤ σ 104 (3 * w + j) ∧ σ 104 (3 * w + j) ≤ 3 ∧ (σ 103 3 ≤ j → σ 104 (3 * w + j) = 0)
def jm_pf (σ : jw_H) (k j : Int) : Int := if k < σ 103 5 then σ 105 (5 * k + j) else if (k - σ 103 5) % σ 103 3 = j then 1 else 0
theorem jm_pf_sm {σ : jw_H} (H : jm_Pb σ) {k j : Int} (k0 : 0 ≤ k) (j0 : 0 ≤ j) (j1 : j < 3) : -3 ≤ jm_pf σ k j ∧ jm_pf σ k j ≤ 3 := by
  unfold jm_pf
  split
  · rename_i h
    have := (H.2.2.2.1 k k0 h).1 j j0 j1
    omega
  · split <;> omega
theorem jm_planes {n : Nat} {σ : jw_H} (H : jm_Pb σ) : jw_T (js_S n) 1 225 [.inr (.inr 103)] σ (fun r σ' => r = some (.inl (σ 103 5 + 2 * σ 103 3)) ∧ σ' = σ) := by
  refine jw_T_of (D := 0) (M := mm_225) rfl (Nat.le_of_ble_eq_true rfl) (ls0 := [some (.inr (.inr 103))]) rfl ?_ (by rintro _ _ ⟨rfl, -⟩; rfl)
  refine jw_W_n 1 (i' := 1) (ls' := [some (.inr (.inr 103))]) (st' := [.inr (.inr 103)]) rfl ?_
  refine jw_W_gf rfl rfl rfl ?_
  show jw_W (js_S n) _ md_225 2 [some (.inr (.inr 103))] [.inl (σ 103 5)] σ _
  refine jw_W_n 2 (i' := 4) (ls' := [some (.inr (.inr 103))]) (st' := [.inr (.inr 103), .inl 2, .inl (σ 103 5)]) rfl ?_
  refine jw_W_gf rfl rfl rfl ?_
  show jw_W (js_S n) _ md_225 5 [some (.inr (.inr 103))] [.inl (σ 103 3), .inl 2, .inl (σ 103 5)] σ _
  refine jw_W_n 2 (i' := 7) (ls' := [some (.inr (.inr 103))]) (st' := [.inl (σ 103 5 + (2 * (σ 103 3)))]) rfl ?_
  refine jw_W_ir rfl ?_
  exact ⟨rfl, rfl⟩
theorem jm_planeOf {n : Nat} {σ : jw_H} {k j : Int} (H : jm_Pb σ) (k0 : 0 ≤ k) (k1 : k < 20) (j0 : 0 ≤ j) (j1 : j < 3) : jw_T (js_S n) 1 226 [.inr (.inr 103), .inl k, .inl j] σ (fun r σ' => r = some (.inl (jm_pf σ k j)) ∧ σ' = σ) := by
  refine jw_T_of (D := 0) (M := mm_226) rfl (Nat.le_of_ble_eq_true rfl) (ls0 := [some (.inr (.inr 103)), some (.inl k), some (.inl j)]) rfl ?_ (by rintro _ _ ⟨rfl, -⟩; rfl)
  obtain ⟨⟨pq1, pq2⟩, ⟨pw1, pw2⟩, ⟨pk1, pk2⟩, hPk, hPb, hPw⟩ := H
  refine jw_W_n 2 (i' := 2) (ls' := [some (.inr (.inr 103)), some (.inl k), some (.inl j)]) (st' := [.inr (.inr 103), .inl k]) rfl ?_
  refine jw_W_gf rfl rfl rfl ?_
  show jw_W (js_S n) _ md_226 3 [some (.inr (.inr 103)), some (.inl k), some (.inl j)] [.inl (σ 103 5), .inl k] σ _
  refine jw_W_ic rfl (by unfold jw_rg; omega) (by unfold jw_rg; omega) (fun hc1 => ?_) (fun hc1 => ?_)
  · have hc1 : k ≥ (σ 103 5) := hc1
    refine jw_W_n 2 (i' := 15) (ls' := [some (.inr (.inr 103)), some (.inl k), some (.inl j)]) (st' := [.inr (.inr 103), .inl k]) rfl ?_
    refine jw_W_gf rfl rfl rfl ?_
    show jw_W (js_S n) _ md_226 16 [some (.inr (.inr 103)), some (.inl k), some (.inl j)] [.inl (σ 103 5), .inl k] σ _
    refine jw_W_n 2 (i' := 18) (ls' := [some (.inr (.inr 103)), some (.inl k), some (.inl j)]) (st' := [.inr (.inr 103), .inl (k - (σ 103 5))]) rfl ?_
    refine jw_W_gf rfl rfl rfl ?_
    show jw_W (js_S n) _ md_226 19 [some (.inr (.inr 103)), some (.inl k), some (.inl j)] [.inl (σ 103 3), .inl (k - (σ 103 5))] σ _
    refine jw_W_irem rfl (by unfold jw_rg; omega) (by omega) ?_
    rw [jm_rem (by omega) (by omega) (by omega) (by omega)]
    have hm1 := Int.emod_nonneg (k - σ 103 5) (show σ 103 3 ≠ 0 by omega)
    have hm2 := Int.emod_lt_of_pos (k - σ 103 5) (show 0 < σ 103 3 by omega)
    refine jw_W_n 1 (i' := 21) (ls' := [some (.inr (.inr 103)), some (.inl k), some (.inl j)]) (st' := [.inl j, .inl ((k - σ 103 5) % σ 103 3)]) rfl ?_
    refine jw_W_ic rfl (by unfold jw_rg; omega) (by unfold jw_rg; omega) (fun hc2 => ?_) (fun hc2 => ?_)
    · have hc2 : ((k - σ 103 5) % σ 103 3) ≠ j := hc2
      refine jw_W_n 1 (i' := 25) (ls' := [some (.inr (.inr 103)), some (.inl k), some (.inl j)]) (st' := [.inl 0]) rfl ?_
      refine jw_W_ir rfl ?_
      refine ⟨?_, rfl⟩
      unfold jm_pf
      first
        | rw [if_pos (show k < σ 103 5 by omega)]
        | rw [if_neg (by omega), if_pos (by assumption)]
        | rw [if_neg (by omega), if_neg (by assumption)]
    · have hc2 : ((k - σ 103 5) % σ 103 3) = j := Classical.not_not.mp hc2
      refine jw_W_n 2 (i' := 25) (ls' := [some (.inr (.inr 103)), some (.inl k), some (.inl j)]) (st' := [.inl 1]) rfl ?_
      refine jw_W_ir rfl ?_
      refine ⟨?_, rfl⟩
      unfold jm_pf
      first
        | rw [if_pos (show k < σ 103 5 by omega)]
        | rw [if_neg (by omega), if_pos (by assumption)]
        | rw [if_neg (by omega), if_neg (by assumption)]
  · have hc1 : ¬ (k ≥ (σ 103 5)) := hc1
    refine jw_W_n 1 (i' := 5) (ls' := [some (.inr (.inr 103)), some (.inl k), some (.inl j)]) (st' := [.inr (.inr 103)]) rfl ?_
    refine jw_W_gf rfl rfl rfl ?_
    show jw_W (js_S n) _ md_226 6 [some (.inr (.inr 103)), some (.inl k), some (.inl j)] [.inr (.inr 105)] σ _
    refine jw_W_n 5 (i' := 11) (ls' := [some (.inr (.inr 103)), some (.inl k), some (.inl j)]) (st' := [.inl ((5 * k) + j), .inr (.inr 105)]) rfl ?_
    refine jw_W_ia rfl rfl (by omega) (by omega) (by omega) ?_
    show jw_W (js_S n) _ md_226 12 [some (.inr (.inr 103)), some (.inl k), some (.inl j)] [.inl (σ 105 ((5 * k) + j))] σ _
    refine jw_W_ir rfl ?_
    refine ⟨?_, rfl⟩
    unfold jm_pf
    first
      | rw [if_pos (show k < σ 103 5 by omega)]
      | rw [if_neg (by omega), if_pos (by assumption)]
      | rw [if_neg (by omega), if_neg (by assumption)]
def jm_nl (σ0 σ : jw_H) (k : Int) : Prop := (∀ o, o ≠ 131 → σ o = σ0 o) ∧ jm_Ns σ ∧ ∀ i, 0 ≤ i → i < k → jm_N σ i = (jm_pf σ0 i 0, jm_pf σ0 i 1, jm_pf σ0 i 2)
theorem jm_ln_N (σ : jw_H) (k a b c i : Int) : jm_N (jm_ln σ k a b c) i = if i = k then (a, b, c) else jm_N σ i := by
  by_cases h : i = k
  · subst h
    rw [if_pos rfl]
    simp only [jm_N, jm_ln]
    rw [jw_up_ne _ (by omega), jw_up_ne _ (by omega), jw_up_eq, jw_up_ne _ (by omega), jw_up_eq, jw_up_eq]
  · rw [if_neg h]
    simp only [jm_N, jm_ln]
    rw [jw_up_ne _ (by omega), jw_up_ne _ (by omega), jw_up_ne _ (by omega), jw_up_ne _ (by omega), jw_up_ne _ (by omega), jw_up_ne _ (by omega), jw_up_ne _ (by omega), jw_up_ne _ (by omega), jw_up_ne _ (by omega)]
theorem jm_ln_o (σ : jw_H) (k a b c : Int) {o : Nat} (ho : o ≠ 131) : jm_ln σ k a b c o = σ o := by
  funext j
  simp only [jm_ln]
  rw [jw_up_ne _ (by omega), jw_up_ne _ (by omega), jw_up_ne _ (by omega)]
theorem jm_ln_Ns {σ : jw_H} {k a b c : Int} (hN : jm_Ns σ) (ha : -3 ≤ a ∧ a ≤ 3) (hb : -3 ≤ b ∧ b ≤ 3) (hc : -3 ≤ c ∧ c ≤ 3) : jm_Ns (jm_ln σ k a b c) := by
  intro j j0 j1
  simp only [jm_ln, jw_up]
  split
  · exact hc
  · split
    · exact hb
    · split
      · exact ha
      · exact hN j j0 j1
theorem jm_pf_fr {σ0 σ : jw_H} (h : ∀ o, o ≠ 131 → σ o = σ0 o) (k j : Int) : jm_pf σ k j = jm_pf σ0 k j := by
  simp only [jm_pf, h 103 (by decide), h 105 (by decide)]
theorem jm_Pb_fr {σ0 σ : jw_H} (h3 : ∀ j, j = 3 ∨ j = 4 ∨ j = 5 → σ 103 j = σ0 103 j) (h4 : σ 104 = σ0 104) (h5 : σ 105 = σ0 105) (h6 : σ 106 = σ0 106) (H : jm_Pb σ0) : jm_Pb σ := by
  unfold jm_Pb at *
  rw [h3 3 (by omega), h3 4 (by omega), h3 5 (by omega), h4, h5, h6]
  exact H
theorem jm_nl_s {σ0 σ : jw_H} {k : Int} (H : jm_nl σ0 σ k) (hP : jm_Pb σ0) (k0 : 0 ≤ k) : jm_nl σ0 (jm_ln σ k (jm_pf σ0 k 0) (jm_pf σ0 k 1) (jm_pf σ0 k 2)) (k + 1) := by
  obtain ⟨a1, a2, a3⟩ := H
  refine ⟨fun o ho => by rw [jm_ln_o _ _ _ _ _ ho]; exact a1 o ho, jm_ln_Ns a2 (jm_pf_sm hP k0 (by omega) (by omega)) (jm_pf_sm hP k0 (by omega) (by omega)) (jm_pf_sm hP k0 (by omega) (by omega)), fun i i0 i1 => ?_⟩
  rw [jm_ln_N]
  by_cases h : i = k
  · rw [if_pos h, h]
  · rw [if_neg h]
    exact a3 i i0 (by omega)
theorem jm_normals {n : Nat} {σ0 : jw_H} {D : Nat} {l2 l3 : Option jw_V} {Q : Option jw_V → jw_H → Prop} (hD : 1 ≤ D) (hP : jm_Pb σ0) (hQ : ∀ σ', jm_nl σ0 σ' (σ0 103 5 + 2 * σ0 103 3) → Q none σ') : ∀ (m : Nat) {σ : jw_H} {k : Int}, 0 ≤ k → k + m = σ0 103 5 + 2 * σ0 103 3 → jm_nl σ0 σ k → jw_W (js_S n) D md_237 82 [some (.inr (.inr 103)), some (.inl k), l2, l3] [] σ Q
  | m, σ, k, k0, hk, hI => by
    have ih : ∀ {σ' : jw_H}, k < σ0 103 5 + 2 * σ0 103 3 → jm_nl σ0 σ' (k + 1) → jw_W (js_S n) D md_237 82 [some (.inr (.inr 103)), some (.inl (k + 1)), l2, l3] [] σ' Q := by
      intro σ' h1 h2
      match m, hk with
      | 0, hk => omega
      | m + 1, hk => exact jm_normals hD hP hQ m (by omega) (by omega) h2
    have hP1 : jm_Pb σ := jm_Pb_fr (fun j _ => by rw [hI.1 103 (by decide)]) (hI.1 104 (by decide)) (hI.1 105 (by decide)) (hI.1 106 (by decide)) hP
    have e3 : σ 103 3 = σ0 103 3 := by rw [hI.1 103 (by decide)]
    have e5 : σ 103 5 = σ0 103 5 := by rw [hI.1 103 (by decide)]
    have hPq := hP.1
    have hPk := hP.2.2.1
    refine jw_W_n 2 (i' := 84) (ls' := [some (.inr (.inr 103)), some (.inl k), l2, l3]) (st' := [.inr (.inr 103), .inl k]) rfl ?_
    refine jw_W_call (as := [.inr (.inr 103)]) (rest := [.inl k]) rfl rfl rfl rfl (Nat.le_of_ble_eq_true rfl) (.inr rfl) (jm_planes hP1) (by omega) ?_ rfl
    rintro r1 σ1 ⟨rfl, hs⟩
    rw [hs]
    show jw_W (js_S n) _ md_237 85 [some (.inr (.inr 103)), some (.inl k), l2, l3] [.inl (σ 103 5 + 2 * σ 103 3), .inl k] σ _
    refine jw_W_ic rfl (by unfold jw_rg; omega) (by unfold jw_rg; omega) (fun hc1 => ?_) (fun hc1 => ?_)
    · have hc1 : k ≥ (σ 103 5 + 2 * σ 103 3) := hc1
      refine jw_W_re rfl ?_
      have hkl : k = σ0 103 5 + 2 * σ0 103 3 := by omega
      subst hkl
      exact hQ σ hI
    · have hc1 : ¬ (k ≥ (σ 103 5 + 2 * σ 103 3)) := hc1
      refine jw_W_n 5 (i' := 91) (ls' := [some (.inr (.inr 103)), some (.inl k), l2, l3]) (st' := [.inl 0, .inl k, .inr (.inr 103), .inl k, .inr (.inr 103)]) rfl ?_
      refine jw_W_call (as := [.inr (.inr 103), .inl k, .inl 0]) (rest := [.inl k, .inr (.inr 103)]) rfl rfl rfl rfl (Nat.le_of_ble_eq_true rfl) (.inr rfl) (jm_planeOf hP1 (by omega) (by omega) (by omega) (by omega)) (by omega) ?_ rfl
      rintro r1 σ1 ⟨rfl, hs⟩
      rw [hs]
      show jw_W (js_S n) _ md_237 92 [some (.inr (.inr 103)), some (.inl k), l2, l3] [.inl (jm_pf σ k 0), .inl k, .inr (.inr 103)] σ _
      refine jw_W_n 3 (i' := 95) (ls' := [some (.inr (.inr 103)), some (.inl k), l2, l3]) (st' := [.inl 1, .inl k, .inr (.inr 103), .inl (jm_pf σ k 0), .inl k, .inr (.inr 103)]) rfl ?_
      refine jw_W_call (as := [.inr (.inr 103), .inl k, .inl 1]) (rest := [.inl (jm_pf σ k 0), .inl k, .inr (.inr 103)]) rfl rfl rfl rfl (Nat.le_of_ble_eq_true rfl) (.inr rfl) (jm_planeOf hP1 (by omega) (by omega) (by omega) (by omega)) (by omega) ?_ rfl
      rintro r1 σ1 ⟨rfl, hs⟩
      rw [hs]
      show jw_W (js_S n) _ md_237 96 [some (.inr (.inr 103)), some (.inl k), l2, l3] [.inl (jm_pf σ k 1), .inl (jm_pf σ k 0), .inl k, .inr (.inr 103)] σ _
      refine jw_W_n 3 (i' := 99) (ls' := [some (.inr (.inr 103)), some (.inl k), l2, l3]) (st' := [.inl 2, .inl k, .inr (.inr 103), .inl (jm_pf σ k 1), .inl (jm_pf σ k 0), .inl k, .inr (.inr 103)]) rfl ?_
      refine jw_W_call (as := [.inr (.inr 103), .inl k, .inl 2]) (rest := [.inl (jm_pf σ k 1), .inl (jm_pf σ k 0), .inl k, .inr (.inr 103)]) rfl rfl rfl rfl (Nat.le_of_ble_eq_true rfl) (.inr rfl) (jm_planeOf hP1 (by omega) (by omega) (by omega) (by omega)) (by omega) ?_ rfl
      rintro r1 σ1 ⟨rfl, hs⟩
      rw [hs]
      show jw_W (js_S n) _ md_237 100 [some (.inr (.inr 103)), some (.inl k), l2, l3] [.inl (jm_pf σ k 2), .inl (jm_pf σ k 1), .inl (jm_pf σ k 0), .inl k, .inr (.inr 103)] σ _
      refine jw_W_call (as := [.inr (.inr 103), .inl k, .inl (jm_pf σ k 0), .inl (jm_pf σ k 1), .inl (jm_pf σ k 2)]) (rest := []) rfl rfl rfl rfl (Nat.le_of_ble_eq_true rfl) (.inr rfl) (jm_laysNormal (by omega) (by omega)) (by omega) ?_ rfl
      rintro r1 σ1 ⟨rfl, rfl⟩
      show jw_W (js_S n) _ md_237 101 [some (.inr (.inr 103)), some (.inl k), l2, l3] [] ((jm_ln σ k (jm_pf σ k 0) (jm_pf σ k 1) (jm_pf σ k 2))) _
      refine jw_W_n 2 (i' := 82) (ls' := [some (.inr (.inr 103)), some (.inl (k + 1)), l2, l3]) (st' := []) rfl ?_
      exact ih (by omega) (by rw [jm_pf_fr hI.1, jm_pf_fr hI.1, jm_pf_fr hI.1]; exact jm_nl_s hI hP k0)

/-! ===== the class: counts over corners ===== -/
theorem jx_KN_x {σ : jw_H} {C : List (ge_R × Int)} (h : jm_KN σ C) {i : Int} (i0 : 0 ≤ i) (i1 : i < σ 103 56) : ∃ x, C[i.toNat]? = some x ∧ x.1 = jm_ct σ i := by
  have hc := h.1.2.1
  have hl := hc.1.1
  have hg := List.getElem?_eq_getElem (l := C) (i := i.toNat) (by omega)
  have e := hc.1.2 _ _ hg
  rw [Int.toNat_of_nonneg i0] at e
  exact ⟨_, hg, e.1.symm⟩
theorem jx_good {σ : jw_H} {C : List (ge_R × Int)} (h : jm_KN σ C) {i : Int} (i0 : 0 ≤ i) (i1 : i < σ 103 56) : jm_good σ i ↔ ¬ jm_Ef σ (jm_ct σ i) := by
  obtain ⟨x, hx, e⟩ := jx_KN_x h i0 i1
  have hl := h.1.2.1.1.1
  refine (h.2.2.1.2 i i0).trans ⟨?_, ?_⟩
  · rintro ⟨-, y, hy, h2⟩
    rw [hx] at hy
    cases hy
    rw [← e]
    exact h2
  · intro h2
    exact ⟨by omega, x, hx, by rw [e]; exact h2⟩
def jm_weakb (σ : jw_H) (i : Int) : Prop := jb_in (σ 103 58) i.toNat
theorem jx_weakb {σ : jw_H} {C : List (ge_R × Int)} (h : jm_KN σ C) {i : Int} (i0 : 0 ≤ i) (i1 : i < σ 103 56) : jm_weakb σ i ↔ jm_Wk σ (jm_ct σ i) := by
  obtain ⟨x, hx, e⟩ := jx_KN_x h i0 i1
  have hl := h.1.2.1.1.1
  refine (h.2.2.2.1.2 i i0).trans ⟨?_, ?_⟩
  · rintro ⟨-, y, hy, h2⟩
    rw [hx] at hy
    cases hy
    rw [← e]
    exact h2
  · intro h2
    exact ⟨by omega, x, hx, by rw [e]; exact h2⟩
theorem jx_nx_E {σ : jw_H} {C : List (ge_R × Int)} {o : Nat} {P : ge_R → ge_R → Prop} (h : jm_KN σ C) (he : jm_el σ o C P C.length (C.length + 1)) {i c : Int} (i0 : 0 ≤ i) (i1 : i < σ 103 56) (c0 : 0 ≤ c) : jm_nx σ o i c ↔ c < σ 103 56 ∧ i ≠ c ∧ P (jm_ct σ i) (jm_ct σ c) := by
  have hl := h.1.2.1.1.1
  obtain ⟨x, hx, e⟩ := jx_KN_x h i0 i1
  refine (he i c i0 (by omega) c0).trans ⟨?_, ?_⟩
  · rintro ⟨h1, a, b, h2, h3, h4⟩
    rw [hx] at h2
    cases h2
    have hcl := (List.getElem?_eq_some_iff.mp h3).1
    obtain ⟨y, hy, e2⟩ := jx_KN_x h c0 (by omega)
    rw [hy] at h3
    cases h3
    rw [e, e2] at h4
    exact ⟨by omega, by unfold jm_dn at h1; omega, h4⟩
  · rintro ⟨h1, h2, h3⟩
    obtain ⟨y, hy, e2⟩ := jx_KN_x h c0 h1
    exact ⟨by unfold jm_dn; omega, x, y, hx, hy, by rw [e, e2]; exact h3⟩
theorem jx_nx1 {σ : jw_H} {C : List (ge_R × Int)} (h : jm_KN σ C) {i c : Int} (i0 : 0 ≤ i) (i1 : i < σ 103 56) (c0 : 0 ≤ c) : jm_nx σ 137 i c ↔ c < σ 103 56 ∧ i ≠ c ∧ jm_E1 σ (jm_ct σ i) (jm_ct σ c) := jx_nx_E h h.2.2.2.2.1 i0 i1 c0
theorem jx_nx2 {σ : jw_H} {C : List (ge_R × Int)} (h : jm_KN σ C) {i c : Int} (i0 : 0 ≤ i) (i1 : i < σ 103 56) (c0 : 0 ≤ c) : jm_nx σ 138 i c ↔ c < σ 103 56 ∧ i ≠ c ∧ jm_E2 σ (jm_ct σ i) (jm_ct σ c) := jx_nx_E h h.2.2.2.2.2.1 i0 i1 c0
/-- what a link says -/
theorem jx_lk_v {σ : jw_H} {C : List (ge_R × Int)} (h : jm_KN σ C) {i c v : Int} (i0 : 0 ≤ i) (i1 : i < σ 103 56) (c0 : 0 ≤ c) (c1 : c < σ 103 56) (hv : jx_lk σ i c v) : (0 ≤ v ∧ v ≤ 2) ∧ (1 ≤ v ↔ jm_nx σ 137 i c) ∧ (2 ≤ v ↔ jm_nx σ 138 i c) := by
  rw [jx_nx1 h i0 i1 c0, jx_nx2 h i0 i1 c0]
  rcases hv with ⟨h1, h2⟩ | ⟨h1, ⟨h2, h3⟩ | ⟨h2, h3, h4⟩ | ⟨h2, h3⟩⟩
  · exact ⟨by omega, ⟨fun hh => by omega, fun hh => absurd h1 hh.2.1⟩, ⟨fun hh => by omega, fun hh => absurd h1 hh.2.1⟩⟩
  · exact ⟨by omega, ⟨fun _ => ⟨c1, h1, h3.1⟩, fun _ => by omega⟩, ⟨fun _ => ⟨c1, h1, h3⟩, fun _ => by omega⟩⟩
  · exact ⟨by omega, ⟨fun _ => ⟨c1, h1, h3⟩, fun _ => by omega⟩, ⟨fun hh => by omega, fun hh => absurd hh.2.2 h4⟩⟩
  · exact ⟨by omega, ⟨fun hh => by omega, fun hh => absurd hh.2.2 h3⟩, ⟨fun hh => by omega, fun hh => absurd hh.2.2.1 h3⟩⟩
/-- judged -/
def jx_KJ (n o : Nat) (C : List (ge_R × Int)) (σ : jw_H) : Prop := jx_I0 n σ o C ∧ jm_KN σ C ∧ σ 57 9 = 1 ∧ jx_jd σ
theorem jx_KJ_K {n o : Nat} {C : List (ge_R × Int)} {σ : jw_H} (h : jx_KJ n o C σ) : jx_K n o C σ := ⟨h.1, h.2.1, .inr h.2.2⟩
theorem jx_tau_1023 {σ : jw_H} {v : ge_R} {t : Int} (hP : jm_Pb σ) (h : jm_tau (jm_bA σ) v t) : 0 ≤ t ∧ t ≤ 1023 := by
  have hq := hP.1
  have hk := hP.2.2.1
  have : t.toNat < 2 ^ 10 := by
    apply Nat.lt_pow_two_of_testBit
    intro i hi
    by_cases hb : t.toNat.testBit i = true
    · by_cases h20 : i < 20
      · obtain ⟨r, h1, -⟩ := (h.2.2 i h20).mp hb
        have := ((jx_bA_row hP).mp h1).1
        omega
      · exact absurd hb (jx_big ⟨h.1, h.2.1⟩ (by omega))
    · exact Bool.eq_false_iff.mpr hb
  have h1 := h.1
  omega
theorem jx_isEfficient {n : Nat} {σ : jw_H} {o : Nat} {C : List (ge_R × Int)} (hJ : jx_KJ n o C σ) {i : Int} (i0 : 0 ≤ i) (i1 : i < σ 103 56) : jw_T (js_S n) 1 13 [.inr (.inr 57), .inl i] σ (fun r σ' => (r = some (.inl 1) ∧ σ' = σ ∧ (jm_good σ i)) ∨ (r = some (.inl 0) ∧ σ' = σ ∧ ¬ (jm_good σ i))) := by
  refine jw_T_of (D := 0) (M := mm_13) rfl (Nat.le_of_ble_eq_true rfl) (ls0 := [some (.inr (.inr 57)), some (.inl i)]) rfl ?_ (by rintro _ _ (⟨rfl, -⟩ | ⟨rfl, -⟩) <;> rfl)
  have hI := hJ.1
  have hKN := hJ.2.1
  have hjd := hJ.2.2.2
  obtain ⟨hto, hfo, hp, hP, e0, e1, e2, hPm, hcb, c0, p0, -⟩ := jx_I0_x hI
  have ho := hp.1
  have hq := hP.1
  have hw := hP.2.1
  have hq2 := hP.2.2.1
  have hcn := hcb.1
  obtain ⟨hrs, hly, hlk⟩ := hjd i i0 i1
  have hr7 := hrs.1
  refine jw_W_n 1 (i' := 1) (ls' := [some (.inr (.inr 57)), some (.inl i)]) (st' := [.inr (.inr 57)]) rfl ?_
  refine jw_W_gf rfl rfl rfl ?_
  show jw_W (js_S n) _ md_13 2 [some (.inr (.inr 57)), some (.inl i)] [.inr (.inr 91)] σ _
  refine jw_W_n 1 (i' := 3) (ls' := [some (.inr (.inr 57)), some (.inl i)]) (st' := [.inl i, .inr (.inr 91)]) rfl ?_
  refine jw_W_ia rfl rfl (by omega) (by omega) (by omega) ?_
  show jw_W (js_S n) _ md_13 4 [some (.inr (.inr 57)), some (.inl i)] [.inl (σ 91 i)] σ _
  refine jw_W_if rfl (by unfold jw_rg; omega) (fun hc1 => ?_) (fun hc1 => ?_)
  · have hc1 : (σ 91 i) ≠ 0 := hc1
    refine jw_W_n 1 (i' := 8) (ls' := [some (.inr (.inr 57)), some (.inl i)]) (st' := [.inl 0]) rfl ?_
    refine jw_W_ir rfl ?_
    exact .inr ⟨rfl, rfl, fun hh => absurd ((jx_rs_0 hrs).mpr ((jx_good hKN i0 i1).mp hh)) (by omega)⟩
  · have hc1 : (σ 91 i) = 0 := Classical.not_not.mp hc1
    refine jw_W_n 2 (i' := 8) (ls' := [some (.inr (.inr 57)), some (.inl i)]) (st' := [.inl 1]) rfl ?_
    refine jw_W_ir rfl ?_
    exact .inl ⟨rfl, rfl, (jx_good hKN i0 i1).mpr ((jx_rs_0 hrs).mp (by omega))⟩
theorem jx_shl8 {w : Int} (w0 : 0 ≤ w) (w1 : w ≤ 3) : 1 ≤ jw_shl 1 w ∧ jw_shl 1 w ≤ 8 := by
  rw [jx_shl1 w w0 w1]
  repeat' split
  all_goals omega
theorem jx_isWeak {n : Nat} {σ : jw_H} {o : Nat} {C : List (ge_R × Int)} (hJ : jx_KJ n o C σ) {i : Int} (i0 : 0 ≤ i) (i1 : i < σ 103 56) : jw_T (js_S n) 2 14 [.inr (.inr 57), .inl i] σ (fun r σ' => (r = some (.inl 1) ∧ σ' = σ ∧ (jm_weakb σ i)) ∨ (r = some (.inl 0) ∧ σ' = σ ∧ ¬ (jm_weakb σ i))) := by
  refine jw_T_of (D := 1) (M := mm_14) rfl (Nat.le_of_ble_eq_true rfl) (ls0 := [some (.inr (.inr 57)), some (.inl i)]) rfl ?_ (by rintro _ _ (⟨rfl, -⟩ | ⟨rfl, -⟩) <;> rfl)
  have hI := hJ.1
  have hKN := hJ.2.1
  have hjd := hJ.2.2.2
  obtain ⟨hto, hfo, hp, hP, e0, e1, e2, hPm, hcb, c0, p0, -⟩ := jx_I0_x hI
  have ho := hp.1
  have hq := hP.1
  have hw := hP.2.1
  have hq2 := hP.2.2.1
  have hcn := hcb.1
  obtain ⟨hrs, hly, hlk⟩ := hjd i i0 i1
  have hr7 := hrs.1
  have hwk := jx_rs_wk hrs (by omega)
  rw [← e1] at hwk
  refine jw_W_n 1 (i' := 1) (ls' := [some (.inr (.inr 57)), some (.inl i)]) (st' := [.inr (.inr 57)]) rfl ?_
  refine jw_W_gf rfl rfl rfl ?_
  show jw_W (js_S n) _ md_14 2 [some (.inr (.inr 57)), some (.inl i)] [.inr (.inr ((σ 57 6).toNat))] σ _
  rw [hfo]
  refine jw_W_gf rfl hp.2.1 rfl ?_
  show jw_W (js_S n) _ md_14 3 [some (.inr (.inr 57)), some (.inl i)] [.inl (σ o 1)] σ _
  refine jw_W_if rfl (by unfold jw_rg; omega) (fun hc1 => ?_) (fun hc1 => ?_)
  · have hc1 : (σ o 1) = 0 := hc1
    refine jw_W_n 2 (i' := 15) (ls' := [some (.inr (.inr 57)), some (.inl i)]) (st' := [.inl 1]) rfl ?_
    refine jw_W_ir rfl ?_
    exact .inl ⟨rfl, rfl, (jx_weakb hKN i0 i1).mpr (hwk.mp (by omega))⟩
  · have hc1 : ¬ ((σ o 1) = 0) := hc1
    refine jw_W_n 1 (i' := 5) (ls' := [some (.inr (.inr 57)), some (.inl i)]) (st' := [.inr (.inr 57)]) rfl ?_
    refine jw_W_gf rfl rfl rfl ?_
    show jw_W (js_S n) _ md_14 6 [some (.inr (.inr 57)), some (.inl i)] [.inr (.inr 91)] σ _
    refine jw_W_n 1 (i' := 7) (ls' := [some (.inr (.inr 57)), some (.inl i)]) (st' := [.inl i, .inr (.inr 91)]) rfl ?_
    refine jw_W_ia rfl rfl (by omega) (by omega) (by omega) ?_
    show jw_W (js_S n) _ md_14 8 [some (.inr (.inr 57)), some (.inl i)] [.inl (σ 91 i)] σ _
    refine jw_W_n 1 (i' := 9) (ls' := [some (.inr (.inr 57)), some (.inl i)]) (st' := [.inr (.inr 57), .inl (σ 91 i)]) rfl ?_
    refine jw_W_gf rfl rfl rfl ?_
    show jw_W (js_S n) _ md_14 10 [some (.inr (.inr 57)), some (.inl i)] [.inr (.inr ((σ 57 6).toNat)), .inl (σ 91 i)] σ _
    rw [hfo]
    refine jw_W_call (as := [.inr (.inr o)]) (rest := [.inl (σ 91 i)]) rfl rfl rfl rfl (Nat.le_of_ble_eq_true rfl) (.inr (jx_rc hp.2.1)) (jx_everyWish hp) (by omega) ?_ rfl
    rintro r1 σz ⟨rfl, hs⟩
    rw [hs]
    have hsw2 := jx_shl8 (w := σ o 1) (by omega) (by omega)
    show jw_W (js_S n) _ md_14 11 [some (.inr (.inr 57)), some (.inl i)] [.inl (jw_shl 1 (σ o 1) - 1), .inl (σ 91 i)] σ _
    refine jw_W_ic rfl (by unfold jw_rg; omega) (by unfold jw_rg; omega) (fun hc2 => ?_) (fun hc2 => ?_)
    · have hc2 : (σ 91 i) = (jw_shl 1 (σ o 1) - 1) := hc2
      refine jw_W_n 1 (i' := 15) (ls' := [some (.inr (.inr 57)), some (.inl i)]) (st' := [.inl 0]) rfl ?_
      refine jw_W_ir rfl ?_
      exact .inr ⟨rfl, rfl, fun hh => by have := hwk.mpr ((jx_weakb hKN i0 i1).mp hh); omega⟩
    · have hc2 : ¬ ((σ 91 i) = (jw_shl 1 (σ o 1) - 1)) := hc2
      refine jw_W_n 2 (i' := 15) (ls' := [some (.inr (.inr 57)), some (.inl i)]) (st' := [.inl 1]) rfl ?_
      refine jw_W_ir rfl ?_
      exact .inl ⟨rfl, rfl, (jx_weakb hKN i0 i1).mpr (hwk.mp (by omega))⟩
theorem jx_linksOf1_loop {n : Nat} {σ : jw_H} {o : Nat} {C : List (ge_R × Int)} (hJ : jx_KJ n o C σ) {i : Int} (i0 : 0 ≤ i) (i1 : i < σ 103 56) : ∀ (f : Nat) {j m : Int}, 0 ≤ j → j + f = σ 103 56 → m = jx_cn (fun c => jm_nx σ 137 i c) j.toNat → jw_W (js_S n) 0 md_19 4 [some (.inr (.inr 57)), some (.inl i), some (.inl 1), some (.inl m), some (.inl j)] [] σ (fun r σ' => r = some (.inl (jx_cn (fun c => jm_nx σ 137 i c) (σ 103 56).toNat)) ∧ σ' = σ)
  | f, j, m, j0, hk, H => by
    have ih : ∀ {m' : Int}, j < σ 103 56 → m' = jx_cn (fun c => jm_nx σ 137 i c) (j + 1).toNat → jw_W (js_S n) 0 md_19 4 [some (.inr (.inr 57)), some (.inl i), some (.inl 1), some (.inl m'), some (.inl (j + 1))] [] σ (fun r σ' => r = some (.inl (jx_cn (fun c => jm_nx σ 137 i c) (σ 103 56).toNat)) ∧ σ' = σ) := by
      intro m' h1 h2
      match f, hk with
      | 0, hk => omega
      | f + 1, hk => exact jx_linksOf1_loop hJ i0 i1 f (by omega) (by omega) h2
    have hI := hJ.1
    have hKN := hJ.2.1
    have hjd := hJ.2.2.2
    obtain ⟨hto, hfo, hp, hP, e0, e1, e2, hPm, hcb, c0, p0, -⟩ := jx_I0_x hI
    have ho := hp.1
    have hq := hP.1
    have hw := hP.2.1
    have hq2 := hP.2.2.1
    have hcn := hcb.1
    obtain ⟨hrs, hly, hlk⟩ := hjd i i0 i1
    have hr7 := hrs.1
    refine jw_W_n 2 (i' := 6) (ls' := [some (.inr (.inr 57)), some (.inl i), some (.inl 1), some (.inl m), some (.inl j)]) (st' := [.inr (.inr 57), .inl j]) rfl ?_
    refine jw_W_gf rfl rfl rfl ?_
    show jw_W (js_S n) _ md_19 7 [some (.inr (.inr 57)), some (.inl i), some (.inl 1), some (.inl m), some (.inl j)] [.inl (σ 57 0), .inl j] σ _
    refine jw_W_ic rfl (by unfold jw_rg; omega) (by unfold jw_rg; omega) (fun hc1 => ?_) (fun hc1 => ?_)
    · have hc1 : j ≥ (σ 57 0) := hc1
      refine jw_W_n 1 (i' := 20) (ls' := [some (.inr (.inr 57)), some (.inl i), some (.inl 1), some (.inl m), some (.inl j)]) (st' := [.inl m]) rfl ?_
      refine jw_W_ir rfl ?_
      have hkl : j = σ 103 56 := by omega
      subst hkl
      exact ⟨by rw [H], rfl⟩
    · have hc1 : ¬ (j ≥ (σ 57 0)) := hc1
      have hlv := jx_lk_v hKN i0 i1 j0 (by omega) (hlk j j0 (by omega))
      refine jw_W_n 1 (i' := 9) (ls' := [some (.inr (.inr 57)), some (.inl i), some (.inl 1), some (.inl m), some (.inl j)]) (st' := [.inr (.inr 57)]) rfl ?_
      refine jw_W_gf rfl rfl rfl ?_
      show jw_W (js_S n) _ md_19 10 [some (.inr (.inr 57)), some (.inl i), some (.inl 1), some (.inl m), some (.inl j)] [.inr (.inr 66)] σ _
      refine jw_W_n 1 (i' := 11) (ls' := [some (.inr (.inr 57)), some (.inl i), some (.inl 1), some (.inl m), some (.inl j)]) (st' := [.inl i, .inr (.inr 66)]) rfl ?_
      refine jw_W_aa rfl rfl (by omega) (by omega) (by omega) ?_
      show jw_W (js_S n) _ md_19 12 [some (.inr (.inr 57)), some (.inl i), some (.inl 1), some (.inl m), some (.inl j)] [.inr (.inr (67 + (i).toNat))] σ _
      refine jw_W_n 1 (i' := 13) (ls' := [some (.inr (.inr 57)), some (.inl i), some (.inl 1), some (.inl m), some (.inl j)]) (st' := [.inl j, .inr (.inr (67 + (i).toNat))]) rfl ?_
      refine jw_W_ia rfl (jx_lsh (by omega) (by omega)) (by omega) (by omega) (by omega) ?_
      show jw_W (js_S n) _ md_19 14 [some (.inr (.inr 57)), some (.inl i), some (.inl 1), some (.inl m), some (.inl j)] [.inl (σ (67 + (i).toNat) j)] σ _
      refine jw_W_n 1 (i' := 15) (ls' := [some (.inr (.inr 57)), some (.inl i), some (.inl 1), some (.inl m), some (.inl j)]) (st' := [.inl 1, .inl (σ (67 + (i).toNat) j)]) rfl ?_
      refine jw_W_ic rfl (by unfold jw_rg; omega) (by unfold jw_rg; omega) (fun hc2 => ?_) (fun hc2 => ?_)
      · have hc2 : (σ (67 + (i).toNat) j) < 1 := hc2
        refine jw_W_n 2 (i' := 4) (ls' := [some (.inr (.inr 57)), some (.inl i), some (.inl 1), some (.inl m), some (.inl (j + 1))]) (st' := []) rfl ?_
        exact ih (by omega) (jx_cn_no j0 H (fun hh => absurd (hlv.2.1.mpr hh) (by omega)))
      · have hc2 : ¬ ((σ (67 + (i).toNat) j) < 1) := hc2
        refine jw_W_n 3 (i' := 4) (ls' := [some (.inr (.inr 57)), some (.inl i), some (.inl 1), some (.inl (m + 1)), some (.inl (j + 1))]) (st' := []) rfl ?_
        exact ih (by omega) (jx_cn_yes j0 H (hlv.2.1.mp (by omega)))
theorem jx_linksOf1 {n : Nat} {σ : jw_H} {o : Nat} {C : List (ge_R × Int)} (hJ : jx_KJ n o C σ) {i : Int} (i0 : 0 ≤ i) (i1 : i < σ 103 56) : jw_T (js_S n) 1 19 [.inr (.inr 57), .inl i, .inl 1] σ (fun r σ' => r = some (.inl (jx_cn (fun c => jm_nx σ 137 i c) (σ 103 56).toNat)) ∧ σ' = σ) := by
  refine jw_T_of (D := 0) (M := mm_19) rfl (Nat.le_of_ble_eq_true rfl) (ls0 := [some (.inr (.inr 57)), some (.inl i), some (.inl 1), none, none]) rfl ?_ (by rintro _ _ ⟨rfl, -⟩; rfl)
  have hI := hJ.1
  have hKN := hJ.2.1
  have hjd := hJ.2.2.2
  obtain ⟨hto, hfo, hp, hP, e0, e1, e2, hPm, hcb, c0, p0, -⟩ := jx_I0_x hI
  have ho := hp.1
  have hq := hP.1
  have hw := hP.2.1
  have hq2 := hP.2.2.1
  have hcn := hcb.1
  refine jw_W_n 4 (i' := 4) (ls' := [some (.inr (.inr 57)), some (.inl i), some (.inl 1), some (.inl 0), some (.inl 0)]) (st' := []) rfl ?_
  exact jx_linksOf1_loop hJ i0 i1 (σ 103 56).toNat (j := 0) (m := 0) (by omega) (by omega) rfl
theorem jx_linksOf2_loop {n : Nat} {σ : jw_H} {o : Nat} {C : List (ge_R × Int)} (hJ : jx_KJ n o C σ) {i : Int} (i0 : 0 ≤ i) (i1 : i < σ 103 56) : ∀ (f : Nat) {j m : Int}, 0 ≤ j → j + f = σ 103 56 → m = jx_cn (fun c => jm_nx σ 138 i c) j.toNat → jw_W (js_S n) 0 md_19 4 [some (.inr (.inr 57)), some (.inl i), some (.inl 2), some (.inl m), some (.inl j)] [] σ (fun r σ' => r = some (.inl (jx_cn (fun c => jm_nx σ 138 i c) (σ 103 56).toNat)) ∧ σ' = σ)
  | f, j, m, j0, hk, H => by
    have ih : ∀ {m' : Int}, j < σ 103 56 → m' = jx_cn (fun c => jm_nx σ 138 i c) (j + 1).toNat → jw_W (js_S n) 0 md_19 4 [some (.inr (.inr 57)), some (.inl i), some (.inl 2), some (.inl m'), some (.inl (j + 1))] [] σ (fun r σ' => r = some (.inl (jx_cn (fun c => jm_nx σ 138 i c) (σ 103 56).toNat)) ∧ σ' = σ) := by
      intro m' h1 h2
      match f, hk with
      | 0, hk => omega
      | f + 1, hk => exact jx_linksOf2_loop hJ i0 i1 f (by omega) (by omega) h2
    have hI := hJ.1
    have hKN := hJ.2.1
    have hjd := hJ.2.2.2
    obtain ⟨hto, hfo, hp, hP, e0, e1, e2, hPm, hcb, c0, p0, -⟩ := jx_I0_x hI
    have ho := hp.1
    have hq := hP.1
    have hw := hP.2.1
    have hq2 := hP.2.2.1
    have hcn := hcb.1
    obtain ⟨hrs, hly, hlk⟩ := hjd i i0 i1
    have hr7 := hrs.1
    refine jw_W_n 2 (i' := 6) (ls' := [some (.inr (.inr 57)), some (.inl i), some (.inl 2), some (.inl m), some (.inl j)]) (st' := [.inr (.inr 57), .inl j]) rfl ?_
    refine jw_W_gf rfl rfl rfl ?_
    show jw_W (js_S n) _ md_19 7 [some (.inr (.inr 57)), some (.inl i), some (.inl 2), some (.inl m), some (.inl j)] [.inl (σ 57 0), .inl j] σ _
    refine jw_W_ic rfl (by unfold jw_rg; omega) (by unfold jw_rg; omega) (fun hc1 => ?_) (fun hc1 => ?_)
    · have hc1 : j ≥ (σ 57 0) := hc1
      refine jw_W_n 1 (i' := 20) (ls' := [some (.inr (.inr 57)), some (.inl i), some (.inl 2), some (.inl m), some (.inl j)]) (st' := [.inl m]) rfl ?_
      refine jw_W_ir rfl ?_
      have hkl : j = σ 103 56 := by omega
      subst hkl
      exact ⟨by rw [H], rfl⟩
    · have hc1 : ¬ (j ≥ (σ 57 0)) := hc1
      have hlv := jx_lk_v hKN i0 i1 j0 (by omega) (hlk j j0 (by omega))
      refine jw_W_n 1 (i' := 9) (ls' := [some (.inr (.inr 57)), some (.inl i), some (.inl 2), some (.inl m), some (.inl j)]) (st' := [.inr (.inr 57)]) rfl ?_
      refine jw_W_gf rfl rfl rfl ?_
      show jw_W (js_S n) _ md_19 10 [some (.inr (.inr 57)), some (.inl i), some (.inl 2), some (.inl m), some (.inl j)] [.inr (.inr 66)] σ _
      refine jw_W_n 1 (i' := 11) (ls' := [some (.inr (.inr 57)), some (.inl i), some (.inl 2), some (.inl m), some (.inl j)]) (st' := [.inl i, .inr (.inr 66)]) rfl ?_
      refine jw_W_aa rfl rfl (by omega) (by omega) (by omega) ?_
      show jw_W (js_S n) _ md_19 12 [some (.inr (.inr 57)), some (.inl i), some (.inl 2), some (.inl m), some (.inl j)] [.inr (.inr (67 + (i).toNat))] σ _
      refine jw_W_n 1 (i' := 13) (ls' := [some (.inr (.inr 57)), some (.inl i), some (.inl 2), some (.inl m), some (.inl j)]) (st' := [.inl j, .inr (.inr (67 + (i).toNat))]) rfl ?_
      refine jw_W_ia rfl (jx_lsh (by omega) (by omega)) (by omega) (by omega) (by omega) ?_
      show jw_W (js_S n) _ md_19 14 [some (.inr (.inr 57)), some (.inl i), some (.inl 2), some (.inl m), some (.inl j)] [.inl (σ (67 + (i).toNat) j)] σ _
      refine jw_W_n 1 (i' := 15) (ls' := [some (.inr (.inr 57)), some (.inl i), some (.inl 2), some (.inl m), some (.inl j)]) (st' := [.inl 2, .inl (σ (67 + (i).toNat) j)]) rfl ?_
      refine jw_W_ic rfl (by unfold jw_rg; omega) (by unfold jw_rg; omega) (fun hc2 => ?_) (fun hc2 => ?_)
      · have hc2 : (σ (67 + (i).toNat) j) < 2 := hc2
        refine jw_W_n 2 (i' := 4) (ls' := [some (.inr (.inr 57)), some (.inl i), some (.inl 2), some (.inl m), some (.inl (j + 1))]) (st' := []) rfl ?_
        exact ih (by omega) (jx_cn_no j0 H (fun hh => absurd (hlv.2.2.mpr hh) (by omega)))
      · have hc2 : ¬ ((σ (67 + (i).toNat) j) < 2) := hc2
        refine jw_W_n 3 (i' := 4) (ls' := [some (.inr (.inr 57)), some (.inl i), some (.inl 2), some (.inl (m + 1)), some (.inl (j + 1))]) (st' := []) rfl ?_
        exact ih (by omega) (jx_cn_yes j0 H (hlv.2.2.mp (by omega)))
theorem jx_linksOf2 {n : Nat} {σ : jw_H} {o : Nat} {C : List (ge_R × Int)} (hJ : jx_KJ n o C σ) {i : Int} (i0 : 0 ≤ i) (i1 : i < σ 103 56) : jw_T (js_S n) 1 19 [.inr (.inr 57), .inl i, .inl 2] σ (fun r σ' => r = some (.inl (jx_cn (fun c => jm_nx σ 138 i c) (σ 103 56).toNat)) ∧ σ' = σ) := by
  refine jw_T_of (D := 0) (M := mm_19) rfl (Nat.le_of_ble_eq_true rfl) (ls0 := [some (.inr (.inr 57)), some (.inl i), some (.inl 2), none, none]) rfl ?_ (by rintro _ _ ⟨rfl, -⟩; rfl)
  have hI := hJ.1
  have hKN := hJ.2.1
  have hjd := hJ.2.2.2
  obtain ⟨hto, hfo, hp, hP, e0, e1, e2, hPm, hcb, c0, p0, -⟩ := jx_I0_x hI
  have ho := hp.1
  have hq := hP.1
  have hw := hP.2.1
  have hq2 := hP.2.2.1
  have hcn := hcb.1
  refine jw_W_n 4 (i' := 4) (ls' := [some (.inr (.inr 57)), some (.inl i), some (.inl 2), some (.inl 0), some (.inl 0)]) (st' := []) rfl ?_
  exact jx_linksOf2_loop hJ i0 i1 (σ 103 56).toNat (j := 0) (m := 0) (by omega) (by omega) rfl
theorem jx_efficientCorners_loop {n : Nat} {σ : jw_H} {o : Nat} {C : List (ge_R × Int)} (hJ : jx_KJ n o C σ)  : ∀ (f : Nat) {j m : Int}, 0 ≤ j → j + f = σ 103 56 → m = jx_cn (fun c => jm_good σ c) j.toNat → jw_W (js_S n) 1 md_22 4 [some (.inr (.inr 57)), some (.inl m), some (.inl j)] [] σ (fun r σ' => r = some (.inl (jx_cn (fun c => jm_good σ c) (σ 103 56).toNat)) ∧ σ' = σ)
  | f, j, m, j0, hk, H => by
    have ih : ∀ {m' : Int}, j < σ 103 56 → m' = jx_cn (fun c => jm_good σ c) (j + 1).toNat → jw_W (js_S n) 1 md_22 4 [some (.inr (.inr 57)), some (.inl m'), some (.inl (j + 1))] [] σ (fun r σ' => r = some (.inl (jx_cn (fun c => jm_good σ c) (σ 103 56).toNat)) ∧ σ' = σ) := by
      intro m' h1 h2
      match f, hk with
      | 0, hk => omega
      | f + 1, hk => exact jx_efficientCorners_loop hJ f (by omega) (by omega) h2
    have hI := hJ.1
    have hKN := hJ.2.1
    have hjd := hJ.2.2.2
    obtain ⟨hto, hfo, hp, hP, e0, e1, e2, hPm, hcb, c0, p0, -⟩ := jx_I0_x hI
    have ho := hp.1
    have hq := hP.1
    have hw := hP.2.1
    have hq2 := hP.2.2.1
    have hcn := hcb.1
    refine jw_W_n 2 (i' := 6) (ls' := [some (.inr (.inr 57)), some (.inl m), some (.inl j)]) (st' := [.inr (.inr 57), .inl j]) rfl ?_
    refine jw_W_gf rfl rfl rfl ?_
    show jw_W (js_S n) _ md_22 7 [some (.inr (.inr 57)), some (.inl m), some (.inl j)] [.inl (σ 57 0), .inl j] σ _
    refine jw_W_ic rfl (by unfold jw_rg; omega) (by unfold jw_rg; omega) (fun hc1 => ?_) (fun hc1 => ?_)
    · have hc1 : j ≥ (σ 57 0) := hc1
      refine jw_W_n 1 (i' := 21) (ls' := [some (.inr (.inr 57)), some (.inl m), some (.inl j)]) (st' := [.inl m]) rfl ?_
      refine jw_W_ir rfl ?_
      have hkl : j = σ 103 56 := by omega
      subst hkl
      exact ⟨by rw [H], rfl⟩
    · have hc1 : ¬ (j ≥ (σ 57 0)) := hc1
      refine jw_W_n 3 (i' := 11) (ls' := [some (.inr (.inr 57)), some (.inl m), some (.inl j)]) (st' := [.inl j, .inr (.inr 57), .inl m]) rfl ?_
      refine jw_W_call (as := [.inr (.inr 57), .inl j]) (rest := [.inl m]) rfl rfl rfl rfl (Nat.le_of_ble_eq_true rfl) (.inr rfl) (jx_isEfficient hJ j0 (by omega)) (by omega) ?_ rfl
      rintro r1 σz (⟨rfl, hs, hg⟩ | ⟨rfl, hs, hg⟩)
      · rw [hs]
        show jw_W (js_S n) _ md_22 12 [some (.inr (.inr 57)), some (.inl m), some (.inl j)] [.inl 1, .inl m] σ _
        refine jw_W_if rfl (by unfold jw_rg; omega) (fun hc2 => ?_) (fun hc2 => ?_)
        · exact absurd hc2 (show ¬ ((1 : Int) = 0) by omega)
        · clear hc2
          refine jw_W_n 6 (i' := 4) (ls' := [some (.inr (.inr 57)), some (.inl (m + 1)), some (.inl (j + 1))]) (st' := []) rfl ?_
          exact ih (by omega) (jx_cn_yes j0 H (hg))
      · rw [hs]
        show jw_W (js_S n) _ md_22 12 [some (.inr (.inr 57)), some (.inl m), some (.inl j)] [.inl 0, .inl m] σ _
        refine jw_W_if rfl (by unfold jw_rg; omega) (fun hc3 => ?_) (fun hc3 => ?_)
        · clear hc3
          refine jw_W_n 5 (i' := 4) (ls' := [some (.inr (.inr 57)), some (.inl (m + 0)), some (.inl (j + 1))]) (st' := []) rfl ?_
          rw [Int.add_zero]
          exact ih (by omega) (jx_cn_no j0 H (hg))
        · exact absurd hc3 (show ¬ ¬ ((0 : Int) = 0) by omega)
theorem jx_efficientCorners {n : Nat} {σ : jw_H} {o : Nat} {C : List (ge_R × Int)} (hJ : jx_KJ n o C σ)  : jw_T (js_S n) 2 22 [.inr (.inr 57)] σ (fun r σ' => r = some (.inl (jx_cn (fun c => jm_good σ c) (σ 103 56).toNat)) ∧ σ' = σ) := by
  refine jw_T_of (D := 1) (M := mm_22) rfl (Nat.le_of_ble_eq_true rfl) (ls0 := [some (.inr (.inr 57)), none, none]) rfl ?_ (by rintro _ _ ⟨rfl, -⟩; rfl)
  have hI := hJ.1
  have hKN := hJ.2.1
  have hjd := hJ.2.2.2
  obtain ⟨hto, hfo, hp, hP, e0, e1, e2, hPm, hcb, c0, p0, -⟩ := jx_I0_x hI
  have ho := hp.1
  have hq := hP.1
  have hw := hP.2.1
  have hq2 := hP.2.2.1
  have hcn := hcb.1
  refine jw_W_n 4 (i' := 4) (ls' := [some (.inr (.inr 57)), some (.inl 0), some (.inl 0)]) (st' := []) rfl ?_
  exact jx_efficientCorners_loop hJ (σ 103 56).toNat (j := 0) (m := 0) (by omega) (by omega) rfl
theorem jx_weakCorners_loop {n : Nat} {σ : jw_H} {o : Nat} {C : List (ge_R × Int)} (hJ : jx_KJ n o C σ)  : ∀ (f : Nat) {j m : Int}, 0 ≤ j → j + f = σ 103 56 → m = jx_cn (fun c => jm_weakb σ c) j.toNat → jw_W (js_S n) 2 md_23 4 [some (.inr (.inr 57)), some (.inl m), some (.inl j)] [] σ (fun r σ' => r = some (.inl (jx_cn (fun c => jm_weakb σ c) (σ 103 56).toNat)) ∧ σ' = σ)
  | f, j, m, j0, hk, H => by
    have ih : ∀ {m' : Int}, j < σ 103 56 → m' = jx_cn (fun c => jm_weakb σ c) (j + 1).toNat → jw_W (js_S n) 2 md_23 4 [some (.inr (.inr 57)), some (.inl m'), some (.inl (j + 1))] [] σ (fun r σ' => r = some (.inl (jx_cn (fun c => jm_weakb σ c) (σ 103 56).toNat)) ∧ σ' = σ) := by
      intro m' h1 h2
      match f, hk with
      | 0, hk => omega
      | f + 1, hk => exact jx_weakCorners_loop hJ f (by omega) (by omega) h2
    have hI := hJ.1
    have hKN := hJ.2.1
    have hjd := hJ.2.2.2
    obtain ⟨hto, hfo, hp, hP, e0, e1, e2, hPm, hcb, c0, p0, -⟩ := jx_I0_x hI
    have ho := hp.1
    have hq := hP.1
    have hw := hP.2.1
    have hq2 := hP.2.2.1
    have hcn := hcb.1
    refine jw_W_n 2 (i' := 6) (ls' := [some (.inr (.inr 57)), some (.inl m), some (.inl j)]) (st' := [.inr (.inr 57), .inl j]) rfl ?_
    refine jw_W_gf rfl rfl rfl ?_
    show jw_W (js_S n) _ md_23 7 [some (.inr (.inr 57)), some (.inl m), some (.inl j)] [.inl (σ 57 0), .inl j] σ _
    refine jw_W_ic rfl (by unfold jw_rg; omega) (by unfold jw_rg; omega) (fun hc1 => ?_) (fun hc1 => ?_)
    · have hc1 : j ≥ (σ 57 0) := hc1
      refine jw_W_n 1 (i' := 21) (ls' := [some (.inr (.inr 57)), some (.inl m), some (.inl j)]) (st' := [.inl m]) rfl ?_
      refine jw_W_ir rfl ?_
      have hkl : j = σ 103 56 := by omega
      subst hkl
      exact ⟨by rw [H], rfl⟩
    · have hc1 : ¬ (j ≥ (σ 57 0)) := hc1
      refine jw_W_n 3 (i' := 11) (ls' := [some (.inr (.inr 57)), some (.inl m), some (.inl j)]) (st' := [.inl j, .inr (.inr 57), .inl m]) rfl ?_
      refine jw_W_call (as := [.inr (.inr 57), .inl j]) (rest := [.inl m]) rfl rfl rfl rfl (Nat.le_of_ble_eq_true rfl) (.inr rfl) (jx_isWeak hJ j0 (by omega)) (by omega) ?_ rfl
      rintro r1 σz (⟨rfl, hs, hg⟩ | ⟨rfl, hs, hg⟩)
      · rw [hs]
        show jw_W (js_S n) _ md_23 12 [some (.inr (.inr 57)), some (.inl m), some (.inl j)] [.inl 1, .inl m] σ _
        refine jw_W_if rfl (by unfold jw_rg; omega) (fun hc2 => ?_) (fun hc2 => ?_)
        · exact absurd hc2 (show ¬ ((1 : Int) = 0) by omega)
        · clear hc2
          refine jw_W_n 6 (i' := 4) (ls' := [some (.inr (.inr 57)), some (.inl (m + 1)), some (.inl (j + 1))]) (st' := []) rfl ?_
          exact ih (by omega) (jx_cn_yes j0 H (hg))
      · rw [hs]
        show jw_W (js_S n) _ md_23 12 [some (.inr (.inr 57)), some (.inl m), some (.inl j)] [.inl 0, .inl m] σ _
        refine jw_W_if rfl (by unfold jw_rg; omega) (fun hc3 => ?_) (fun hc3 => ?_)
        · clear hc3
          refine jw_W_n 5 (i' := 4) (ls' := [some (.inr (.inr 57)), some (.inl (m + 0)), some (.inl (j + 1))]) (st' := []) rfl ?_
          rw [Int.add_zero]
          exact ih (by omega) (jx_cn_no j0 H (hg))
        · exact absurd hc3 (show ¬ ¬ ((0 : Int) = 0) by omega)
theorem jx_weakCorners {n : Nat} {σ : jw_H} {o : Nat} {C : List (ge_R × Int)} (hJ : jx_KJ n o C σ)  : jw_T (js_S n) 3 23 [.inr (.inr 57)] σ (fun r σ' => r = some (.inl (jx_cn (fun c => jm_weakb σ c) (σ 103 56).toNat)) ∧ σ' = σ) := by
  refine jw_T_of (D := 2) (M := mm_23) rfl (Nat.le_of_ble_eq_true rfl) (ls0 := [some (.inr (.inr 57)), none, none]) rfl ?_ (by rintro _ _ ⟨rfl, -⟩; rfl)
  have hI := hJ.1
  have hKN := hJ.2.1
  have hjd := hJ.2.2.2
  obtain ⟨hto, hfo, hp, hP, e0, e1, e2, hPm, hcb, c0, p0, -⟩ := jx_I0_x hI
  have ho := hp.1
  have hq := hP.1
  have hw := hP.2.1
  have hq2 := hP.2.2.1
  have hcn := hcb.1
  refine jw_W_n 4 (i' := 4) (ls' := [some (.inr (.inr 57)), some (.inl 0), some (.inl 0)]) (st' := []) rfl ?_
  exact jx_weakCorners_loop hJ (σ 103 56).toNat (j := 0) (m := 0) (by omega) (by omega) rfl
theorem jx_crowded_loop {n : Nat} {σ : jw_H} {o : Nat} {C : List (ge_R × Int)} (hJ : jx_KJ n o C σ)  : ∀ (f : Nat) {j m : Int}, 0 ≤ j → j + f = σ 103 56 → m = jx_cn (fun c => σ 103 3 < jx_cn (fun k => jb_in (σ 136 c) k.toNat) 20) j.toNat → jw_W (js_S n) 1 md_24 4 [some (.inr (.inr 57)), some (.inl m), some (.inl j)] [] σ (fun r σ' => r = some (.inl (jx_cn (fun c => σ 103 3 < jx_cn (fun k => jb_in (σ 136 c) k.toNat) 20) (σ 103 56).toNat)) ∧ σ' = σ)
  | f, j, m, j0, hk, H => by
    have ih : ∀ {m' : Int}, j < σ 103 56 → m' = jx_cn (fun c => σ 103 3 < jx_cn (fun k => jb_in (σ 136 c) k.toNat) 20) (j + 1).toNat → jw_W (js_S n) 1 md_24 4 [some (.inr (.inr 57)), some (.inl m'), some (.inl (j + 1))] [] σ (fun r σ' => r = some (.inl (jx_cn (fun c => σ 103 3 < jx_cn (fun k => jb_in (σ 136 c) k.toNat) 20) (σ 103 56).toNat)) ∧ σ' = σ) := by
      intro m' h1 h2
      match f, hk with
      | 0, hk => omega
      | f + 1, hk => exact jx_crowded_loop hJ f (by omega) (by omega) h2
    have hI := hJ.1
    have hKN := hJ.2.1
    have hjd := hJ.2.2.2
    obtain ⟨hto, hfo, hp, hP, e0, e1, e2, hPm, hcb, c0, p0, -⟩ := jx_I0_x hI
    have ho := hp.1
    have hq := hP.1
    have hw := hP.2.1
    have hq2 := hP.2.2.1
    have hcn := hcb.1
    refine jw_W_n 2 (i' := 6) (ls' := [some (.inr (.inr 57)), some (.inl m), some (.inl j)]) (st' := [.inr (.inr 57), .inl j]) rfl ?_
    refine jw_W_gf rfl rfl rfl ?_
    show jw_W (js_S n) _ md_24 7 [some (.inr (.inr 57)), some (.inl m), some (.inl j)] [.inl (σ 57 0), .inl j] σ _
    refine jw_W_ic rfl (by unfold jw_rg; omega) (by unfold jw_rg; omega) (fun hc1 => ?_) (fun hc1 => ?_)
    · have hc1 : j ≥ (σ 57 0) := hc1
      refine jw_W_n 1 (i' := 26) (ls' := [some (.inr (.inr 57)), some (.inl m), some (.inl j)]) (st' := [.inl m]) rfl ?_
      refine jw_W_ir rfl ?_
      have hkl : j = σ 103 56 := by omega
      subst hkl
      exact ⟨by rw [H], rfl⟩
    · have hc1 : ¬ (j ≥ (σ 57 0)) := hc1
      refine jw_W_n 2 (i' := 10) (ls' := [some (.inr (.inr 57)), some (.inl m), some (.inl j)]) (st' := [.inr (.inr 57), .inl m]) rfl ?_
      refine jw_W_gf rfl rfl rfl ?_
      show jw_W (js_S n) _ md_24 11 [some (.inr (.inr 57)), some (.inl m), some (.inl j)] [.inr (.inr 63), .inl m] σ _
      refine jw_W_n 1 (i' := 12) (ls' := [some (.inr (.inr 57)), some (.inl m), some (.inl j)]) (st' := [.inl j, .inr (.inr 63), .inl m]) rfl ?_
      refine jw_W_ia rfl rfl (by omega) (by omega) (by omega) ?_
      show jw_W (js_S n) _ md_24 13 [some (.inr (.inr 57)), some (.inl m), some (.inl j)] [.inl (σ 63 j), .inl m] σ _
      have hcj := jx_I0_c hI j0 (by omega)
      rw [hcj.2.1]
      have ht := jx_tau_1023 hPm hcj.2.2.2.2.1
      refine jw_W_call (as := [.inl (σ 136 j)]) (rest := [.inl m]) rfl rfl rfl rfl (Nat.le_of_ble_eq_true rfl) (.inl rfl) (jx_bitCount ht.1 ht.2) (by omega) ?_ rfl
      rintro r1 σz ⟨rfl, hs⟩
      rw [hs]
      have hbl := jx_cn_le (fun k => jb_in (σ 136 j) k.toNat) 20
      show jw_W (js_S n) _ md_24 14 [some (.inr (.inr 57)), some (.inl m), some (.inl j)] [.inl (jx_cn (fun k => jb_in (σ 136 j) k.toNat) 20), .inl m] σ _
      refine jw_W_n 1 (i' := 15) (ls' := [some (.inr (.inr 57)), some (.inl m), some (.inl j)]) (st' := [.inr (.inr 57), .inl (jx_cn (fun k => jb_in (σ 136 j) k.toNat) 20), .inl m]) rfl ?_
      refine jw_W_gf rfl rfl rfl ?_
      show jw_W (js_S n) _ md_24 16 [some (.inr (.inr 57)), some (.inl m), some (.inl j)] [.inr (.inr ((σ 57 6).toNat)), .inl (jx_cn (fun k => jb_in (σ 136 j) k.toNat) 20), .inl m] σ _
      rw [hfo]
      refine jw_W_gf rfl hp.2.1 rfl ?_
      show jw_W (js_S n) _ md_24 17 [some (.inr (.inr 57)), some (.inl m), some (.inl j)] [.inl (σ o 0), .inl (jx_cn (fun k => jb_in (σ 136 j) k.toNat) 20), .inl m] σ _
      refine jw_W_ic rfl (by unfold jw_rg; omega) (by unfold jw_rg; omega) (fun hc2 => ?_) (fun hc2 => ?_)
      · have hc2 : (jx_cn (fun k => jb_in (σ 136 j) k.toNat) 20) ≤ (σ o 0) := hc2
        refine jw_W_n 5 (i' := 4) (ls' := [some (.inr (.inr 57)), some (.inl (m + 0)), some (.inl (j + 1))]) (st' := []) rfl ?_
        rw [Int.add_zero]
        exact ih (by omega) (jx_cn_no j0 H (by omega))
      · have hc2 : ¬ ((jx_cn (fun k => jb_in (σ 136 j) k.toNat) 20) ≤ (σ o 0)) := hc2
        refine jw_W_n 6 (i' := 4) (ls' := [some (.inr (.inr 57)), some (.inl (m + 1)), some (.inl (j + 1))]) (st' := []) rfl ?_
        exact ih (by omega) (jx_cn_yes j0 H (by omega))
theorem jx_crowded {n : Nat} {σ : jw_H} {o : Nat} {C : List (ge_R × Int)} (hJ : jx_KJ n o C σ)  : jw_T (js_S n) 2 24 [.inr (.inr 57)] σ (fun r σ' => r = some (.inl (jx_cn (fun c => σ 103 3 < jx_cn (fun k => jb_in (σ 136 c) k.toNat) 20) (σ 103 56).toNat)) ∧ σ' = σ) := by
  refine jw_T_of (D := 1) (M := mm_24) rfl (Nat.le_of_ble_eq_true rfl) (ls0 := [some (.inr (.inr 57)), none, none]) rfl ?_ (by rintro _ _ ⟨rfl, -⟩; rfl)
  have hI := hJ.1
  have hKN := hJ.2.1
  have hjd := hJ.2.2.2
  obtain ⟨hto, hfo, hp, hP, e0, e1, e2, hPm, hcb, c0, p0, -⟩ := jx_I0_x hI
  have ho := hp.1
  have hq := hP.1
  have hw := hP.2.1
  have hq2 := hP.2.2.1
  have hcn := hcb.1
  refine jw_W_n 4 (i' := 4) (ls' := [some (.inr (.inr 57)), some (.inl 0), some (.inl 0)]) (st' := []) rfl ?_
  exact jx_crowded_loop hJ (σ 103 56).toNat (j := 0) (m := 0) (by omega) (by omega) rfl
theorem jx_effNb_loop {n : Nat} {σ : jw_H} {o : Nat} {C : List (ge_R × Int)} (hJ : jx_KJ n o C σ) {i : Int} (i0 : 0 ≤ i) (i1 : i < σ 103 56) : ∀ (f : Nat) {j m : Int}, 0 ≤ j → j + f = σ 103 56 → m = jx_cn (fun c => jm_nx σ 137 i c ∧ jm_good σ c) j.toNat → jw_W (js_S n) 1 md_21 4 [some (.inr (.inr 57)), some (.inl i), some (.inl m), some (.inl j)] [] σ (fun r σ' => r = some (.inl (jx_cn (fun c => jm_nx σ 137 i c ∧ jm_good σ c) (σ 103 56).toNat)) ∧ σ' = σ)
  | f, j, m, j0, hk, H => by
    have ih : ∀ {m' : Int}, j < σ 103 56 → m' = jx_cn (fun c => jm_nx σ 137 i c ∧ jm_good σ c) (j + 1).toNat → jw_W (js_S n) 1 md_21 4 [some (.inr (.inr 57)), some (.inl i), some (.inl m'), some (.inl (j + 1))] [] σ (fun r σ' => r = some (.inl (jx_cn (fun c => jm_nx σ 137 i c ∧ jm_good σ c) (σ 103 56).toNat)) ∧ σ' = σ) := by
      intro m' h1 h2
      match f, hk with
      | 0, hk => omega
      | f + 1, hk => exact jx_effNb_loop hJ i0 i1 f (by omega) (by omega) h2
    have hI := hJ.1
    have hKN := hJ.2.1
    have hjd := hJ.2.2.2
    obtain ⟨hto, hfo, hp, hP, e0, e1, e2, hPm, hcb, c0, p0, -⟩ := jx_I0_x hI
    have ho := hp.1
    have hq := hP.1
    have hw := hP.2.1
    have hq2 := hP.2.2.1
    have hcn := hcb.1
    obtain ⟨hrs, hly, hlk⟩ := hjd i i0 i1
    have hr7 := hrs.1
    refine jw_W_n 2 (i' := 6) (ls' := [some (.inr (.inr 57)), some (.inl i), some (.inl m), some (.inl j)]) (st' := [.inr (.inr 57), .inl j]) rfl ?_
    refine jw_W_gf rfl rfl rfl ?_
    show jw_W (js_S n) _ md_21 7 [some (.inr (.inr 57)), some (.inl i), some (.inl m), some (.inl j)] [.inl (σ 57 0), .inl j] σ _
    refine jw_W_ic rfl (by unfold jw_rg; omega) (by unfold jw_rg; omega) (fun hc1 => ?_) (fun hc1 => ?_)
    · have hc1 : j ≥ (σ 57 0) := hc1
      refine jw_W_n 1 (i' := 24) (ls' := [some (.inr (.inr 57)), some (.inl i), some (.inl m), some (.inl j)]) (st' := [.inl m]) rfl ?_
      refine jw_W_ir rfl ?_
      have hkl : j = σ 103 56 := by omega
      subst hkl
      exact ⟨by rw [H], rfl⟩
    · have hc1 : ¬ (j ≥ (σ 57 0)) := hc1
      have hlv := jx_lk_v hKN i0 i1 j0 (by omega) (hlk j j0 (by omega))
      refine jw_W_n 1 (i' := 9) (ls' := [some (.inr (.inr 57)), some (.inl i), some (.inl m), some (.inl j)]) (st' := [.inr (.inr 57)]) rfl ?_
      refine jw_W_gf rfl rfl rfl ?_
      show jw_W (js_S n) _ md_21 10 [some (.inr (.inr 57)), some (.inl i), some (.inl m), some (.inl j)] [.inr (.inr 66)] σ _
      refine jw_W_n 1 (i' := 11) (ls' := [some (.inr (.inr 57)), some (.inl i), some (.inl m), some (.inl j)]) (st' := [.inl i, .inr (.inr 66)]) rfl ?_
      refine jw_W_aa rfl rfl (by omega) (by omega) (by omega) ?_
      show jw_W (js_S n) _ md_21 12 [some (.inr (.inr 57)), some (.inl i), some (.inl m), some (.inl j)] [.inr (.inr (67 + (i).toNat))] σ _
      refine jw_W_n 1 (i' := 13) (ls' := [some (.inr (.inr 57)), some (.inl i), some (.inl m), some (.inl j)]) (st' := [.inl j, .inr (.inr (67 + (i).toNat))]) rfl ?_
      refine jw_W_ia rfl (jx_lsh (by omega) (by omega)) (by omega) (by omega) (by omega) ?_
      show jw_W (js_S n) _ md_21 14 [some (.inr (.inr 57)), some (.inl i), some (.inl m), some (.inl j)] [.inl (σ (67 + (i).toNat) j)] σ _
      refine jw_W_n 1 (i' := 15) (ls' := [some (.inr (.inr 57)), some (.inl i), some (.inl m), some (.inl j)]) (st' := [.inl 1, .inl (σ (67 + (i).toNat) j)]) rfl ?_
      refine jw_W_ic rfl (by unfold jw_rg; omega) (by unfold jw_rg; omega) (fun hc2 => ?_) (fun hc2 => ?_)
      · have hc2 : (σ (67 + (i).toNat) j) < 1 := hc2
        refine jw_W_n 2 (i' := 4) (ls' := [some (.inr (.inr 57)), some (.inl i), some (.inl m), some (.inl (j + 1))]) (st' := []) rfl ?_
        exact ih (by omega) (jx_cn_no j0 H (fun hh => by first | exact hg hh.2 | exact absurd (hlv.2.1.mpr hh.1) (by omega)))
      · have hc2 : ¬ ((σ (67 + (i).toNat) j) < 1) := hc2
        refine jw_W_n 2 (i' := 18) (ls' := [some (.inr (.inr 57)), some (.inl i), some (.inl m), some (.inl j)]) (st' := [.inl j, .inr (.inr 57)]) rfl ?_
        refine jw_W_call (as := [.inr (.inr 57), .inl j]) (rest := []) rfl rfl rfl rfl (Nat.le_of_ble_eq_true rfl) (.inr rfl) (jx_isEfficient hJ j0 (by omega)) (by omega) ?_ rfl
        rintro r1 σz (⟨rfl, hs, hg⟩ | ⟨rfl, hs, hg⟩)
        · rw [hs]
          show jw_W (js_S n) _ md_21 19 [some (.inr (.inr 57)), some (.inl i), some (.inl m), some (.inl j)] [.inl 1] σ _
          refine jw_W_if rfl (by unfold jw_rg; omega) (fun hc3 => ?_) (fun hc3 => ?_)
          · exact absurd hc3 (show ¬ ((1 : Int) = 0) by omega)
          · clear hc3
            refine jw_W_n 3 (i' := 4) (ls' := [some (.inr (.inr 57)), some (.inl i), some (.inl (m + 1)), some (.inl (j + 1))]) (st' := []) rfl ?_
            exact ih (by omega) (jx_cn_yes j0 H (⟨hlv.2.1.mp (by omega), hg⟩))
        · rw [hs]
          show jw_W (js_S n) _ md_21 19 [some (.inr (.inr 57)), some (.inl i), some (.inl m), some (.inl j)] [.inl 0] σ _
          refine jw_W_if rfl (by unfold jw_rg; omega) (fun hc4 => ?_) (fun hc4 => ?_)
          · clear hc4
            refine jw_W_n 2 (i' := 4) (ls' := [some (.inr (.inr 57)), some (.inl i), some (.inl m), some (.inl (j + 1))]) (st' := []) rfl ?_
            exact ih (by omega) (jx_cn_no j0 H (fun hh => by first | exact hg hh.2 | exact absurd (hlv.2.1.mpr hh.1) (by omega)))
          · exact absurd hc4 (show ¬ ¬ ((0 : Int) = 0) by omega)
theorem jx_effNb {n : Nat} {σ : jw_H} {o : Nat} {C : List (ge_R × Int)} (hJ : jx_KJ n o C σ) {i : Int} (i0 : 0 ≤ i) (i1 : i < σ 103 56) : jw_T (js_S n) 2 21 [.inr (.inr 57), .inl i] σ (fun r σ' => r = some (.inl (jx_cn (fun c => jm_nx σ 137 i c ∧ jm_good σ c) (σ 103 56).toNat)) ∧ σ' = σ) := by
  refine jw_T_of (D := 1) (M := mm_21) rfl (Nat.le_of_ble_eq_true rfl) (ls0 := [some (.inr (.inr 57)), some (.inl i), none, none]) rfl ?_ (by rintro _ _ ⟨rfl, -⟩; rfl)
  have hI := hJ.1
  have hKN := hJ.2.1
  have hjd := hJ.2.2.2
  obtain ⟨hto, hfo, hp, hP, e0, e1, e2, hPm, hcb, c0, p0, -⟩ := jx_I0_x hI
  have ho := hp.1
  have hq := hP.1
  have hw := hP.2.1
  have hq2 := hP.2.2.1
  have hcn := hcb.1
  refine jw_W_n 4 (i' := 4) (ls' := [some (.inr (.inr 57)), some (.inl i), some (.inl 0), some (.inl 0)]) (st' := []) rfl ?_
  exact jx_effNb_loop hJ i0 i1 (σ 103 56).toNat (j := 0) (m := 0) (by omega) (by omega) rfl

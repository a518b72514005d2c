/-! ===== the reference's scratch; faces ===== -/
/-- what a query of the reference leaves as it was -/
def jm_fz (σ σ' : jw_H) : Prop := (∀ o, (o < 119 ∨ (120 < o ∧ o < 125) ∨ (131 < o ∧ o < 140) ∨ 143 < o) → o ≠ 103 → σ' o = σ o) ∧ (∀ j, (j < 46 ∨ (46 < j ∧ j < 60) ∨ 73 < j) → σ' 103 j = σ 103 j) ∧ jm_Ns σ'
theorem jm_fz_pq {σ σ' : jw_H} (h : jm_fz σ σ') : jx_pq σ' σ := by
  refine ⟨⟨h.2.1 3 (by omega), h.2.1 4 (by omega), h.2.1 5 (by omega)⟩, fun j _ _ => ?_, fun j _ _ => ?_, fun j _ _ => ?_⟩
  · rw [h.1 104 (by omega) (by omega)]
  · rw [h.1 105 (by omega) (by omega)]
  · rw [h.1 106 (by omega) (by omega)]
theorem jm_fz_ct {σ σ' : jw_H} (h : jm_fz σ σ') (i : Int) : jm_ct σ' i = jm_ct σ i := by
  unfold jm_ct
  rw [h.1 132 (by omega) (by omega), h.1 133 (by omega) (by omega), h.1 134 (by omega) (by omega), h.1 135 (by omega) (by omega)]
theorem jm_lv_w {σ σ' : jw_H} (hF : jm_F σ' = jm_F σ) (hc : ∀ i, jm_ct σ' i = jm_ct σ i) (hn : σ' 103 56 = σ 103 56) : ∀ (t : Nat) (i : Int), jm_lv σ' t i ↔ jm_lv σ t i
  | 0, i => by
    unfold jm_lv
    rw [hn]
  | t + 1, i => by
    unfold jm_lv
    have e : ∀ c, jm_ab' σ' c i ↔ jm_ab' σ c i := fun c => by
      unfold jm_ab'
      rw [hF, hc, hc]
    constructor
    · rintro ⟨h1, c, h2, h3⟩
      exact ⟨(jm_lv_w hF hc hn t i).mp h1, c, (jm_lv_w hF hc hn t c).mp h2, (e c).mp h3⟩
    · rintro ⟨h1, c, h2, h3⟩
      exact ⟨(jm_lv_w hF hc hn t i).mpr h1, c, (jm_lv_w hF hc hn t c).mpr h2, (e c).mpr h3⟩
theorem jm_fz_rf {σ : jw_H} {C : List (ge_R × Int)} (h : jm_KN σ C) : jm_fz σ σ := ⟨fun _ _ _ => rfl, fun _ _ => rfl, h.1.2.2.2.2.1⟩
theorem jm_fz_bA {σ σ' : jw_H} (h : jm_fz σ σ') (hP : jm_Pb σ) : jm_bA σ' = jm_bA σ := jx_pq_bA (jm_fz_pq h) (by have := hP.1; omega) (by have := hP.2.2.1; omega)
theorem jm_fz_tr {σ σ1 σ2 : jw_H} (_ : jm_Pb σ) (a : jm_fz σ σ1) (b : jm_fz σ1 σ2) : jm_fz σ σ2 := ⟨fun o h1 h2 => (b.1 o h1 h2).trans (a.1 o h1 h2), fun j h => (b.2.1 j h).trans (a.2.1 j h), b.2.2⟩
theorem jm_fe_z {σ σ' : jw_H} (h : jm_fe σ σ') : jm_fz σ σ' := ⟨fun o h1 h2 => h.1.1 o (by omega) h2, fun j hj => h.1.2 j (by omega), h.2.1⟩
theorem jm_fz_up {σ σ' : jw_H} {o : Nat} {j v : Int} (h : jm_fz σ σ') (ho : o = 119 ∨ o = 120 ∨ (140 ≤ o ∧ o ≤ 143) ∨ (o = 103 ∧ 60 ≤ j ∧ j ≤ 73)) : jm_fz σ (jw_up σ' o j v) := by
  have e131 : jw_up σ' o j v 131 = σ' 131 := jw_up_out _ _ _ (by omega)
  refine ⟨fun c h1 h2 => ?_, fun j' hj => ?_, ?_⟩
  · rw [jw_up_out _ _ _ (by omega)]
    exact h.1 c h1 h2
  · rw [jw_up_ne _ (by omega)]
    exact h.2.1 j' hj
  · unfold jm_Ns
    rw [e131]
    exact h.2.2
theorem jm_Pb_fz {σ σ' : jw_H} (h : jm_fz σ σ') (hP : jm_Pb σ) : jm_Pb σ' := jm_Pb_fr (fun j hj => h.2.1 j (by omega)) (h.1 104 (by omega) (by omega)) (h.1 105 (by omega) (by omega)) (h.1 106 (by omega) (by omega)) hP
theorem jm_KN_fz {σ0 σ : jw_H} {C : List (ge_R × Int)} (h : jm_fz σ0 σ) (hk : jm_KN σ0 C) : jm_KN σ C := by
  have hP := hk.1.1
  have pq := jm_fz_pq h
  have ef := fun p => jx_pq_Ef pq hP p
  have eR := jx_pq_R pq (by have := hP.1; omega) (by have := hP.2.2.1; omega)
  have eB := jm_fz_bA h hP
  have lv := jm_lv_w (jx_pq_F pq) (jm_fz_ct h) (h.2.1 56 (by omega))
  have e3 : σ 103 3 = σ0 103 3 := h.2.1 3 (by omega)
  have e4 : σ 103 4 = σ0 103 4 := h.2.1 4 (by omega)
  have eW : ∀ w, jm_W σ w = jm_W σ0 w := fun w => by
    unfold jm_W
    rw [h.1 104 (by omega) (by omega)]
  obtain ⟨h0, ⟨m1, m2⟩, g1, g2, l1, l2, t, t1, t2, t3, t4⟩ := hk
  obtain ⟨k1, k2, k3, k4, k5, k6⟩ := h0
  refine ⟨⟨jm_Pb_fz h k1, ⟨⟨?_, fun i x hx => ?_⟩, ?_, k2.2.2⟩, ?_, ?_, h.2.2, trivial⟩, ⟨?_, ?_⟩, ?_, ?_, ?_, ?_, t, by rw [h.2.1 59 (by omega)]; exact t1, fun s hs => ?_, fun a ha => t3 a ((lv t a).mp ha), fun a a0 a1 => ?_⟩
  · rw [h.2.1 56 (by omega)]
    exact k2.1.1
  · rw [jm_fz_ct h, h.1 136 (by omega) (by omega)]
    exact k2.1.2 i x hx
  · rw [e3, eB]
    exact k2.2.1
  · rw [e3, eB]
    exact k3
  · rw [eB]
    exact k4
  · unfold jm_mk
    rw [h.1 137 (by omega) (by omega)]
    exact m1
  · unfold jm_mk
    rw [h.1 138 (by omega) (by omega)]
    exact m2
  · exact jm_gd_iff (h.2.1 57 (by omega)) (fun p => not_congr (ef p).symm) g1
  · refine jm_gd_iff (h.2.1 58 (by omega)) (fun p => ?_) g2
    unfold jm_Wk
    rw [e4]
    refine or_congr Iff.rfl ⟨?_, ?_⟩
    · rintro ⟨k, a, b, c⟩
      exact ⟨k, a, b, fun hh => c (by rw [← eW]; exact (jx_pq_up1 pq hP p _).mp hh)⟩
    · rintro ⟨k, a, b, c⟩
      exact ⟨k, a, b, fun hh => c (by rw [← eW] at hh; exact (jx_pq_up1 pq hP p _).mpr hh)⟩
  · exact jm_el_iff (h.1 137 (by omega) (by omega)) (fun p q => by unfold jm_E1; rw [eR]) l1
  · exact jm_el_iff (h.1 138 (by omega) (by omega)) (fun p q => by unfold jm_E2; rw [eR, ef]) l2
  · obtain ⟨a, ha⟩ := t2 s hs
    exact ⟨a, (lv s a).mpr ha⟩
  · rw [h.2.1 56 (by omega)] at a1
    obtain ⟨s, h1, h2, h3, h4⟩ := t4 a a0 a1
    exact ⟨s, h1, by rw [h.1 139 (by omega) (by omega)]; exact h2, (lv s a).mpr h3, fun hh => h4 ((lv (s + 1) a).mp hh)⟩
theorem jm_areInLine {n : Nat} {σ : jw_H} {C : List (ge_R × Int)} (hKN : jm_KN σ C) {i j k : Int} (i0 : 0 ≤ i) (i1 : i < σ 103 56) (j0 : 0 ≤ j) (j1 : j < σ 103 56) (k0 : 0 ≤ k) (k1 : k < σ 103 56) : jw_T (js_S n) 1 274 [.inr (.inr 103), .inl i, .inl j, .inl k] σ (fun r σ' => (r = some (.inl 1) ∧ σ' = σ ∧ (¬ ge_nz (jm_X (ge_to (jm_ct σ i) (jm_ct σ j)) (ge_to (jm_ct σ i) (jm_ct σ k))))) ∨ (r = some (.inl 0) ∧ σ' = σ ∧ ¬ (¬ ge_nz (jm_X (ge_to (jm_ct σ i) (jm_ct σ j)) (ge_to (jm_ct σ i) (jm_ct σ k)))))) := by
  refine jw_T_of (D := 0) (M := mm_274) rfl (Nat.le_of_ble_eq_true rfl) (ls0 := [some (.inr (.inr 103)), some (.inl i), some (.inl j), some (.inl k), none, none, none, none, none, none, none, none, none, none, none, none]) rfl ?_ (by rintro _ _ (⟨rfl, -⟩ | ⟨rfl, -⟩) <;> rfl)
  have hcb := (jm_kw_cbd hKN.1).2 σ (jm_fk_rf σ)
  have hcn := hcb.1
  have hPm := hKN.1.1
  have hqq := hPm.1
  have hww := hPm.2.1
  have hkk := hPm.2.2.1
  have hg57 := hKN.2.2.1.1
  have hg58 := hKN.2.2.2.1.1
  obtain ⟨xi, yi, zi, wi⟩ := jx_ct_bd hcb i0 i1
  obtain ⟨xj, yj, zj, wj⟩ := jx_ct_bd hcb j0 j1
  obtain ⟨xk, yk, zk, wk⟩ := jx_ct_bd hcb k0 k1
  simp only [jm_ct] at xi yi zi wi xj yj zj wj xk yk zk wk
  have pxij := jx_xw xi wj
  have pyij := jx_xw yi wj
  have pzij := jx_xw zi wj
  have pxji := jx_xw xj wi
  have pyji := jx_xw yj wi
  have pzji := jx_xw zj wi
  have pxik := jx_xw xi wk
  have pyik := jx_xw yi wk
  have pzik := jx_xw zi wk
  have pxki := jx_xw xk wi
  have pyki := jx_xw yk wi
  have pzki := jx_xw zk wi
  refine jw_W_n 1 (i' := 1) (ls' := [some (.inr (.inr 103)), some (.inl i), some (.inl j), some (.inl k), none, none, none, none, none, none, none, none, none, none, none, none]) (st' := [.inr (.inr 103)]) rfl ?_
  refine jw_W_gf rfl rfl rfl ?_
  show jw_W (js_S n) _ md_274 2 [some (.inr (.inr 103)), some (.inl i), some (.inl j), some (.inl k), none, none, none, none, none, none, none, none, none, none, none, none] [.inr (.inr 132)] σ _
  refine jw_W_n 1 (i' := 3) (ls' := [some (.inr (.inr 103)), some (.inl i), some (.inl j), some (.inl k), none, none, none, none, none, none, none, none, none, none, none, none]) (st' := [.inl j, .inr (.inr 132)]) rfl ?_
  refine jw_W_la rfl rfl (by omega) (by omega) (by omega) ?_
  show jw_W (js_S n) _ md_274 4 [some (.inr (.inr 103)), some (.inl i), some (.inl j), some (.inl k), none, none, none, none, none, none, none, none, none, none, none, none] [.inr (.inl (σ 132 j))] σ _
  refine jw_W_n 1 (i' := 5) (ls' := [some (.inr (.inr 103)), some (.inl i), some (.inl j), some (.inl k), none, none, none, none, none, none, none, none, none, none, none, none]) (st' := [.inr (.inr 103), .inr (.inl (σ 132 j))]) rfl ?_
  refine jw_W_gf rfl rfl rfl ?_
  show jw_W (js_S n) _ md_274 6 [some (.inr (.inr 103)), some (.inl i), some (.inl j), some (.inl k), none, none, none, none, none, none, none, none, none, none, none, none] [.inr (.inr 135), .inr (.inl (σ 132 j))] σ _
  refine jw_W_n 1 (i' := 7) (ls' := [some (.inr (.inr 103)), some (.inl i), some (.inl j), some (.inl k), none, none, none, none, none, none, none, none, none, none, none, none]) (st' := [.inl i, .inr (.inr 135), .inr (.inl (σ 132 j))]) rfl ?_
  refine jw_W_la rfl rfl (by omega) (by omega) (by omega) ?_
  show jw_W (js_S n) _ md_274 8 [some (.inr (.inr 103)), some (.inl i), some (.inl j), some (.inl k), none, none, none, none, none, none, none, none, none, none, none, none] [.inr (.inl (σ 135 i)), .inr (.inl (σ 132 j))] σ _
  refine jw_W_n 2 (i' := 10) (ls' := [some (.inr (.inr 103)), some (.inl i), some (.inl j), some (.inl k), none, none, none, none, none, none, none, none, none, none, none, none]) (st' := [.inr (.inr 103), .inr (.inl ((σ 132 j) * (σ 135 i)))]) rfl ?_
  refine jw_W_gf rfl rfl rfl ?_
  show jw_W (js_S n) _ md_274 11 [some (.inr (.inr 103)), some (.inl i), some (.inl j), some (.inl k), none, none, none, none, none, none, none, none, none, none, none, none] [.inr (.inr 132), .inr (.inl ((σ 132 j) * (σ 135 i)))] σ _
  refine jw_W_n 1 (i' := 12) (ls' := [some (.inr (.inr 103)), some (.inl i), some (.inl j), some (.inl k), none, none, none, none, none, none, none, none, none, none, none, none]) (st' := [.inl i, .inr (.inr 132), .inr (.inl ((σ 132 j) * (σ 135 i)))]) rfl ?_
  refine jw_W_la rfl rfl (by omega) (by omega) (by omega) ?_
  show jw_W (js_S n) _ md_274 13 [some (.inr (.inr 103)), some (.inl i), some (.inl j), some (.inl k), none, none, none, none, none, none, none, none, none, none, none, none] [.inr (.inl (σ 132 i)), .inr (.inl ((σ 132 j) * (σ 135 i)))] σ _
  refine jw_W_n 1 (i' := 14) (ls' := [some (.inr (.inr 103)), some (.inl i), some (.inl j), some (.inl k), none, none, none, none, none, none, none, none, none, none, none, none]) (st' := [.inr (.inr 103), .inr (.inl (σ 132 i)), .inr (.inl ((σ 132 j) * (σ 135 i)))]) rfl ?_
  refine jw_W_gf rfl rfl rfl ?_
  show jw_W (js_S n) _ md_274 15 [some (.inr (.inr 103)), some (.inl i), some (.inl j), some (.inl k), none, none, none, none, none, none, none, none, none, none, none, none] [.inr (.inr 135), .inr (.inl (σ 132 i)), .inr (.inl ((σ 132 j) * (σ 135 i)))] σ _
  refine jw_W_n 1 (i' := 16) (ls' := [some (.inr (.inr 103)), some (.inl i), some (.inl j), some (.inl k), none, none, none, none, none, none, none, none, none, none, none, none]) (st' := [.inl j, .inr (.inr 135), .inr (.inl (σ 132 i)), .inr (.inl ((σ 132 j) * (σ 135 i)))]) rfl ?_
  refine jw_W_la rfl rfl (by omega) (by omega) (by omega) ?_
  show jw_W (js_S n) _ md_274 17 [some (.inr (.inr 103)), some (.inl i), some (.inl j), some (.inl k), none, none, none, none, none, none, none, none, none, none, none, none] [.inr (.inl (σ 135 j)), .inr (.inl (σ 132 i)), .inr (.inl ((σ 132 j) * (σ 135 i)))] σ _
  refine jw_W_n 2 (i' := 19) (ls' := [some (.inr (.inr 103)), some (.inl i), some (.inl j), some (.inl k), none, none, none, none, none, none, none, none, none, none, none, none]) (st' := [.inr (.inl (((σ 132 j) * (σ 135 i)) - ((σ 132 i) * (σ 135 j))))]) rfl ?_
  obtain ⟨ax, eax⟩ : ∃ w, w = ((σ 132 j) * (σ 135 i)) - ((σ 132 i) * (σ 135 j)) := ⟨_, rfl⟩
  rw [← eax]
  have bax : -472392 ≤ ax ∧ ax ≤ 472392 := by rw [eax]; omega
  have eax : ax = (ge_to (jm_ct σ i) (jm_ct σ j)).1 := eax
  refine jw_W_n 2 (i' := 21) (ls' := [some (.inr (.inr 103)), some (.inl i), some (.inl j), some (.inl k), some (.inr (.inl ax)), none, none, none, none, none, none, none, none, none, none, none]) (st' := [.inr (.inr 103)]) rfl ?_
  refine jw_W_gf rfl rfl rfl ?_
  show jw_W (js_S n) _ md_274 22 [some (.inr (.inr 103)), some (.inl i), some (.inl j), some (.inl k), some (.inr (.inl ax)), none, none, none, none, none, none, none, none, none, none, none] [.inr (.inr 133)] σ _
  refine jw_W_n 1 (i' := 23) (ls' := [some (.inr (.inr 103)), some (.inl i), some (.inl j), some (.inl k), some (.inr (.inl ax)), none, none, none, none, none, none, none, none, none, none, none]) (st' := [.inl j, .inr (.inr 133)]) rfl ?_
  refine jw_W_la rfl rfl (by omega) (by omega) (by omega) ?_
  show jw_W (js_S n) _ md_274 24 [some (.inr (.inr 103)), some (.inl i), some (.inl j), some (.inl k), some (.inr (.inl ax)), none, none, none, none, none, none, none, none, none, none, none] [.inr (.inl (σ 133 j))] σ _
  refine jw_W_n 1 (i' := 25) (ls' := [some (.inr (.inr 103)), some (.inl i), some (.inl j), some (.inl k), some (.inr (.inl ax)), none, none, none, none, none, none, none, none, none, none, none]) (st' := [.inr (.inr 103), .inr (.inl (σ 133 j))]) rfl ?_
  refine jw_W_gf rfl rfl rfl ?_
  show jw_W (js_S n) _ md_274 26 [some (.inr (.inr 103)), some (.inl i), some (.inl j), some (.inl k), some (.inr (.inl ax)), none, none, none, none, none, none, none, none, none, none, none] [.inr (.inr 135), .inr (.inl (σ 133 j))] σ _
  refine jw_W_n 1 (i' := 27) (ls' := [some (.inr (.inr 103)), some (.inl i), some (.inl j), some (.inl k), some (.inr (.inl ax)), none, none, none, none, none, none, none, none, none, none, none]) (st' := [.inl i, .inr (.inr 135), .inr (.inl (σ 133 j))]) rfl ?_
  refine jw_W_la rfl rfl (by omega) (by omega) (by omega) ?_
  show jw_W (js_S n) _ md_274 28 [some (.inr (.inr 103)), some (.inl i), some (.inl j), some (.inl k), some (.inr (.inl ax)), none, none, none, none, none, none, none, none, none, none, none] [.inr (.inl (σ 135 i)), .inr (.inl (σ 133 j))] σ _
  refine jw_W_n 2 (i' := 30) (ls' := [some (.inr (.inr 103)), some (.inl i), some (.inl j), some (.inl k), some (.inr (.inl ax)), none, none, none, none, none, none, none, none, none, none, none]) (st' := [.inr (.inr 103), .inr (.inl ((σ 133 j) * (σ 135 i)))]) rfl ?_
  refine jw_W_gf rfl rfl rfl ?_
  show jw_W (js_S n) _ md_274 31 [some (.inr (.inr 103)), some (.inl i), some (.inl j), some (.inl k), some (.inr (.inl ax)), none, none, none, none, none, none, none, none, none, none, none] [.inr (.inr 133), .inr (.inl ((σ 133 j) * (σ 135 i)))] σ _
  refine jw_W_n 1 (i' := 32) (ls' := [some (.inr (.inr 103)), some (.inl i), some (.inl j), some (.inl k), some (.inr (.inl ax)), none, none, none, none, none, none, none, none, none, none, none]) (st' := [.inl i, .inr (.inr 133), .inr (.inl ((σ 133 j) * (σ 135 i)))]) rfl ?_
  refine jw_W_la rfl rfl (by omega) (by omega) (by omega) ?_
  show jw_W (js_S n) _ md_274 33 [some (.inr (.inr 103)), some (.inl i), some (.inl j), some (.inl k), some (.inr (.inl ax)), none, none, none, none, none, none, none, none, none, none, none] [.inr (.inl (σ 133 i)), .inr (.inl ((σ 133 j) * (σ 135 i)))] σ _
  refine jw_W_n 1 (i' := 34) (ls' := [some (.inr (.inr 103)), some (.inl i), some (.inl j), some (.inl k), some (.inr (.inl ax)), none, none, none, none, none, none, none, none, none, none, none]) (st' := [.inr (.inr 103), .inr (.inl (σ 133 i)), .inr (.inl ((σ 133 j) * (σ 135 i)))]) rfl ?_
  refine jw_W_gf rfl rfl rfl ?_
  show jw_W (js_S n) _ md_274 35 [some (.inr (.inr 103)), some (.inl i), some (.inl j), some (.inl k), some (.inr (.inl ax)), none, none, none, none, none, none, none, none, none, none, none] [.inr (.inr 135), .inr (.inl (σ 133 i)), .inr (.inl ((σ 133 j) * (σ 135 i)))] σ _
  refine jw_W_n 1 (i' := 36) (ls' := [some (.inr (.inr 103)), some (.inl i), some (.inl j), some (.inl k), some (.inr (.inl ax)), none, none, none, none, none, none, none, none, none, none, none]) (st' := [.inl j, .inr (.inr 135), .inr (.inl (σ 133 i)), .inr (.inl ((σ 133 j) * (σ 135 i)))]) rfl ?_
  refine jw_W_la rfl rfl (by omega) (by omega) (by omega) ?_
  show jw_W (js_S n) _ md_274 37 [some (.inr (.inr 103)), some (.inl i), some (.inl j), some (.inl k), some (.inr (.inl ax)), none, none, none, none, none, none, none, none, none, none, none] [.inr (.inl (σ 135 j)), .inr (.inl (σ 133 i)), .inr (.inl ((σ 133 j) * (σ 135 i)))] σ _
  refine jw_W_n 2 (i' := 39) (ls' := [some (.inr (.inr 103)), some (.inl i), some (.inl j), some (.inl k), some (.inr (.inl ax)), none, none, none, none, none, none, none, none, none, none, none]) (st' := [.inr (.inl (((σ 133 j) * (σ 135 i)) - ((σ 133 i) * (σ 135 j))))]) rfl ?_
  obtain ⟨ay, eay⟩ : ∃ w, w = ((σ 133 j) * (σ 135 i)) - ((σ 133 i) * (σ 135 j)) := ⟨_, rfl⟩
  rw [← eay]
  have bay : -472392 ≤ ay ∧ ay ≤ 472392 := by rw [eay]; omega
  have eay : ay = (ge_to (jm_ct σ i) (jm_ct σ j)).2.1 := eay
  refine jw_W_n 2 (i' := 41) (ls' := [some (.inr (.inr 103)), some (.inl i), some (.inl j), some (.inl k), some (.inr (.inl ax)), none, some (.inr (.inl ay)), none, none, none, none, none, none, none, none, none]) (st' := [.inr (.inr 103)]) rfl ?_
  refine jw_W_gf rfl rfl rfl ?_
  show jw_W (js_S n) _ md_274 42 [some (.inr (.inr 103)), some (.inl i), some (.inl j), some (.inl k), some (.inr (.inl ax)), none, some (.inr (.inl ay)), none, none, none, none, none, none, none, none, none] [.inr (.inr 134)] σ _
  refine jw_W_n 1 (i' := 43) (ls' := [some (.inr (.inr 103)), some (.inl i), some (.inl j), some (.inl k), some (.inr (.inl ax)), none, some (.inr (.inl ay)), none, none, none, none, none, none, none, none, none]) (st' := [.inl j, .inr (.inr 134)]) rfl ?_
  refine jw_W_la rfl rfl (by omega) (by omega) (by omega) ?_
  show jw_W (js_S n) _ md_274 44 [some (.inr (.inr 103)), some (.inl i), some (.inl j), some (.inl k), some (.inr (.inl ax)), none, some (.inr (.inl ay)), none, none, none, none, none, none, none, none, none] [.inr (.inl (σ 134 j))] σ _
  refine jw_W_n 1 (i' := 45) (ls' := [some (.inr (.inr 103)), some (.inl i), some (.inl j), some (.inl k), some (.inr (.inl ax)), none, some (.inr (.inl ay)), none, none, none, none, none, none, none, none, none]) (st' := [.inr (.inr 103), .inr (.inl (σ 134 j))]) rfl ?_
  refine jw_W_gf rfl rfl rfl ?_
  show jw_W (js_S n) _ md_274 46 [some (.inr (.inr 103)), some (.inl i), some (.inl j), some (.inl k), some (.inr (.inl ax)), none, some (.inr (.inl ay)), none, none, none, none, none, none, none, none, none] [.inr (.inr 135), .inr (.inl (σ 134 j))] σ _
  refine jw_W_n 1 (i' := 47) (ls' := [some (.inr (.inr 103)), some (.inl i), some (.inl j), some (.inl k), some (.inr (.inl ax)), none, some (.inr (.inl ay)), none, none, none, none, none, none, none, none, none]) (st' := [.inl i, .inr (.inr 135), .inr (.inl (σ 134 j))]) rfl ?_
  refine jw_W_la rfl rfl (by omega) (by omega) (by omega) ?_
  show jw_W (js_S n) _ md_274 48 [some (.inr (.inr 103)), some (.inl i), some (.inl j), some (.inl k), some (.inr (.inl ax)), none, some (.inr (.inl ay)), none, none, none, none, none, none, none, none, none] [.inr (.inl (σ 135 i)), .inr (.inl (σ 134 j))] σ _
  refine jw_W_n 2 (i' := 50) (ls' := [some (.inr (.inr 103)), some (.inl i), some (.inl j), some (.inl k), some (.inr (.inl ax)), none, some (.inr (.inl ay)), none, none, none, none, none, none, none, none, none]) (st' := [.inr (.inr 103), .inr (.inl ((σ 134 j) * (σ 135 i)))]) rfl ?_
  refine jw_W_gf rfl rfl rfl ?_
  show jw_W (js_S n) _ md_274 51 [some (.inr (.inr 103)), some (.inl i), some (.inl j), some (.inl k), some (.inr (.inl ax)), none, some (.inr (.inl ay)), none, none, none, none, none, none, none, none, none] [.inr (.inr 134), .inr (.inl ((σ 134 j) * (σ 135 i)))] σ _
  refine jw_W_n 1 (i' := 52) (ls' := [some (.inr (.inr 103)), some (.inl i), some (.inl j), some (.inl k), some (.inr (.inl ax)), none, some (.inr (.inl ay)), none, none, none, none, none, none, none, none, none]) (st' := [.inl i, .inr (.inr 134), .inr (.inl ((σ 134 j) * (σ 135 i)))]) rfl ?_
  refine jw_W_la rfl rfl (by omega) (by omega) (by omega) ?_
  show jw_W (js_S n) _ md_274 53 [some (.inr (.inr 103)), some (.inl i), some (.inl j), some (.inl k), some (.inr (.inl ax)), none, some (.inr (.inl ay)), none, none, none, none, none, none, none, none, none] [.inr (.inl (σ 134 i)), .inr (.inl ((σ 134 j) * (σ 135 i)))] σ _
  refine jw_W_n 1 (i' := 54) (ls' := [some (.inr (.inr 103)), some (.inl i), some (.inl j), some (.inl k), some (.inr (.inl ax)), none, some (.inr (.inl ay)), none, none, none, none, none, none, none, none, none]) (st' := [.inr (.inr 103), .inr (.inl (σ 134 i)), .inr (.inl ((σ 134 j) * (σ 135 i)))]) rfl ?_
  refine jw_W_gf rfl rfl rfl ?_
  show jw_W (js_S n) _ md_274 55 [some (.inr (.inr 103)), some (.inl i), some (.inl j), some (.inl k), some (.inr (.inl ax)), none, some (.inr (.inl ay)), none, none, none, none, none, none, none, none, none] [.inr (.inr 135), .inr (.inl (σ 134 i)), .inr (.inl ((σ 134 j) * (σ 135 i)))] σ _
  refine jw_W_n 1 (i' := 56) (ls' := [some (.inr (.inr 103)), some (.inl i), some (.inl j), some (.inl k), some (.inr (.inl ax)), none, some (.inr (.inl ay)), none, none, none, none, none, none, none, none, none]) (st' := [.inl j, .inr (.inr 135), .inr (.inl (σ 134 i)), .inr (.inl ((σ 134 j) * (σ 135 i)))]) rfl ?_
  refine jw_W_la rfl rfl (by omega) (by omega) (by omega) ?_
  show jw_W (js_S n) _ md_274 57 [some (.inr (.inr 103)), some (.inl i), some (.inl j), some (.inl k), some (.inr (.inl ax)), none, some (.inr (.inl ay)), none, none, none, none, none, none, none, none, none] [.inr (.inl (σ 135 j)), .inr (.inl (σ 134 i)), .inr (.inl ((σ 134 j) * (σ 135 i)))] σ _
  refine jw_W_n 2 (i' := 59) (ls' := [some (.inr (.inr 103)), some (.inl i), some (.inl j), some (.inl k), some (.inr (.inl ax)), none, some (.inr (.inl ay)), none, none, none, none, none, none, none, none, none]) (st' := [.inr (.inl (((σ 134 j) * (σ 135 i)) - ((σ 134 i) * (σ 135 j))))]) rfl ?_
  obtain ⟨az, eaz⟩ : ∃ w, w = ((σ 134 j) * (σ 135 i)) - ((σ 134 i) * (σ 135 j)) := ⟨_, rfl⟩
  rw [← eaz]
  have baz : -472392 ≤ az ∧ az ≤ 472392 := by rw [eaz]; omega
  have eaz : az = (ge_to (jm_ct σ i) (jm_ct σ j)).2.2 := eaz
  refine jw_W_n 2 (i' := 61) (ls' := [some (.inr (.inr 103)), some (.inl i), some (.inl j), some (.inl k), some (.inr (.inl ax)), none, some (.inr (.inl ay)), none, some (.inr (.inl az)), none, none, none, none, none, none, none]) (st' := [.inr (.inr 103)]) rfl ?_
  refine jw_W_gf rfl rfl rfl ?_
  show jw_W (js_S n) _ md_274 62 [some (.inr (.inr 103)), some (.inl i), some (.inl j), some (.inl k), some (.inr (.inl ax)), none, some (.inr (.inl ay)), none, some (.inr (.inl az)), none, none, none, none, none, none, none] [.inr (.inr 132)] σ _
  refine jw_W_n 1 (i' := 63) (ls' := [some (.inr (.inr 103)), some (.inl i), some (.inl j), some (.inl k), some (.inr (.inl ax)), none, some (.inr (.inl ay)), none, some (.inr (.inl az)), none, none, none, none, none, none, none]) (st' := [.inl k, .inr (.inr 132)]) rfl ?_
  refine jw_W_la rfl rfl (by omega) (by omega) (by omega) ?_
  show jw_W (js_S n) _ md_274 64 [some (.inr (.inr 103)), some (.inl i), some (.inl j), some (.inl k), some (.inr (.inl ax)), none, some (.inr (.inl ay)), none, some (.inr (.inl az)), none, none, none, none, none, none, none] [.inr (.inl (σ 132 k))] σ _
  refine jw_W_n 1 (i' := 65) (ls' := [some (.inr (.inr 103)), some (.inl i), some (.inl j), some (.inl k), some (.inr (.inl ax)), none, some (.inr (.inl ay)), none, some (.inr (.inl az)), none, none, none, none, none, none, none]) (st' := [.inr (.inr 103), .inr (.inl (σ 132 k))]) rfl ?_
  refine jw_W_gf rfl rfl rfl ?_
  show jw_W (js_S n) _ md_274 66 [some (.inr (.inr 103)), some (.inl i), some (.inl j), some (.inl k), some (.inr (.inl ax)), none, some (.inr (.inl ay)), none, some (.inr (.inl az)), none, none, none, none, none, none, none] [.inr (.inr 135), .inr (.inl (σ 132 k))] σ _
  refine jw_W_n 1 (i' := 67) (ls' := [some (.inr (.inr 103)), some (.inl i), some (.inl j), some (.inl k), some (.inr (.inl ax)), none, some (.inr (.inl ay)), none, some (.inr (.inl az)), none, none, none, none, none, none, none]) (st' := [.inl i, .inr (.inr 135), .inr (.inl (σ 132 k))]) rfl ?_
  refine jw_W_la rfl rfl (by omega) (by omega) (by omega) ?_
  show jw_W (js_S n) _ md_274 68 [some (.inr (.inr 103)), some (.inl i), some (.inl j), some (.inl k), some (.inr (.inl ax)), none, some (.inr (.inl ay)), none, some (.inr (.inl az)), none, none, none, none, none, none, none] [.inr (.inl (σ 135 i)), .inr (.inl (σ 132 k))] σ _
  refine jw_W_n 2 (i' := 70) (ls' := [some (.inr (.inr 103)), some (.inl i), some (.inl j), some (.inl k), some (.inr (.inl ax)), none, some (.inr (.inl ay)), none, some (.inr (.inl az)), none, none, none, none, none, none, none]) (st' := [.inr (.inr 103), .inr (.inl ((σ 132 k) * (σ 135 i)))]) rfl ?_
  refine jw_W_gf rfl rfl rfl ?_
  show jw_W (js_S n) _ md_274 71 [some (.inr (.inr 103)), some (.inl i), some (.inl j), some (.inl k), some (.inr (.inl ax)), none, some (.inr (.inl ay)), none, some (.inr (.inl az)), none, none, none, none, none, none, none] [.inr (.inr 132), .inr (.inl ((σ 132 k) * (σ 135 i)))] σ _
  refine jw_W_n 1 (i' := 72) (ls' := [some (.inr (.inr 103)), some (.inl i), some (.inl j), some (.inl k), some (.inr (.inl ax)), none, some (.inr (.inl ay)), none, some (.inr (.inl az)), none, none, none, none, none, none, none]) (st' := [.inl i, .inr (.inr 132), .inr (.inl ((σ 132 k) * (σ 135 i)))]) rfl ?_
  refine jw_W_la rfl rfl (by omega) (by omega) (by omega) ?_
  show jw_W (js_S n) _ md_274 73 [some (.inr (.inr 103)), some (.inl i), some (.inl j), some (.inl k), some (.inr (.inl ax)), none, some (.inr (.inl ay)), none, some (.inr (.inl az)), none, none, none, none, none, none, none] [.inr (.inl (σ 132 i)), .inr (.inl ((σ 132 k) * (σ 135 i)))] σ _
  refine jw_W_n 1 (i' := 74) (ls' := [some (.inr (.inr 103)), some (.inl i), some (.inl j), some (.inl k), some (.inr (.inl ax)), none, some (.inr (.inl ay)), none, some (.inr (.inl az)), none, none, none, none, none, none, none]) (st' := [.inr (.inr 103), .inr (.inl (σ 132 i)), .inr (.inl ((σ 132 k) * (σ 135 i)))]) rfl ?_
  refine jw_W_gf rfl rfl rfl ?_
  show jw_W (js_S n) _ md_274 75 [some (.inr (.inr 103)), some (.inl i), some (.inl j), some (.inl k), some (.inr (.inl ax)), none, some (.inr (.inl ay)), none, some (.inr (.inl az)), none, none, none, none, none, none, none] [.inr (.inr 135), .inr (.inl (σ 132 i)), .inr (.inl ((σ 132 k) * (σ 135 i)))] σ _
  refine jw_W_n 1 (i' := 76) (ls' := [some (.inr (.inr 103)), some (.inl i), some (.inl j), some (.inl k), some (.inr (.inl ax)), none, some (.inr (.inl ay)), none, some (.inr (.inl az)), none, none, none, none, none, none, none]) (st' := [.inl k, .inr (.inr 135), .inr (.inl (σ 132 i)), .inr (.inl ((σ 132 k) * (σ 135 i)))]) rfl ?_
  refine jw_W_la rfl rfl (by omega) (by omega) (by omega) ?_
  show jw_W (js_S n) _ md_274 77 [some (.inr (.inr 103)), some (.inl i), some (.inl j), some (.inl k), some (.inr (.inl ax)), none, some (.inr (.inl ay)), none, some (.inr (.inl az)), none, none, none, none, none, none, none] [.inr (.inl (σ 135 k)), .inr (.inl (σ 132 i)), .inr (.inl ((σ 132 k) * (σ 135 i)))] σ _
  refine jw_W_n 2 (i' := 79) (ls' := [some (.inr (.inr 103)), some (.inl i), some (.inl j), some (.inl k), some (.inr (.inl ax)), none, some (.inr (.inl ay)), none, some (.inr (.inl az)), none, none, none, none, none, none, none]) (st' := [.inr (.inl (((σ 132 k) * (σ 135 i)) - ((σ 132 i) * (σ 135 k))))]) rfl ?_
  obtain ⟨bx, ebx⟩ : ∃ w, w = ((σ 132 k) * (σ 135 i)) - ((σ 132 i) * (σ 135 k)) := ⟨_, rfl⟩
  rw [← ebx]
  have bbx : -472392 ≤ bx ∧ bx ≤ 472392 := by rw [ebx]; omega
  have ebx : bx = (ge_to (jm_ct σ i) (jm_ct σ k)).1 := ebx
  refine jw_W_n 2 (i' := 81) (ls' := [some (.inr (.inr 103)), some (.inl i), some (.inl j), some (.inl k), some (.inr (.inl ax)), none, some (.inr (.inl ay)), none, some (.inr (.inl az)), none, some (.inr (.inl bx)), none, none, none, none, none]) (st' := [.inr (.inr 103)]) rfl ?_
  refine jw_W_gf rfl rfl rfl ?_
  show jw_W (js_S n) _ md_274 82 [some (.inr (.inr 103)), some (.inl i), some (.inl j), some (.inl k), some (.inr (.inl ax)), none, some (.inr (.inl ay)), none, some (.inr (.inl az)), none, some (.inr (.inl bx)), none, none, none, none, none] [.inr (.inr 133)] σ _
  refine jw_W_n 1 (i' := 83) (ls' := [some (.inr (.inr 103)), some (.inl i), some (.inl j), some (.inl k), some (.inr (.inl ax)), none, some (.inr (.inl ay)), none, some (.inr (.inl az)), none, some (.inr (.inl bx)), none, none, none, none, none]) (st' := [.inl k, .inr (.inr 133)]) rfl ?_
  refine jw_W_la rfl rfl (by omega) (by omega) (by omega) ?_
  show jw_W (js_S n) _ md_274 84 [some (.inr (.inr 103)), some (.inl i), some (.inl j), some (.inl k), some (.inr (.inl ax)), none, some (.inr (.inl ay)), none, some (.inr (.inl az)), none, some (.inr (.inl bx)), none, none, none, none, none] [.inr (.inl (σ 133 k))] σ _
  refine jw_W_n 1 (i' := 85) (ls' := [some (.inr (.inr 103)), some (.inl i), some (.inl j), some (.inl k), some (.inr (.inl ax)), none, some (.inr (.inl ay)), none, some (.inr (.inl az)), none, some (.inr (.inl bx)), none, none, none, none, none]) (st' := [.inr (.inr 103), .inr (.inl (σ 133 k))]) rfl ?_
  refine jw_W_gf rfl rfl rfl ?_
  show jw_W (js_S n) _ md_274 86 [some (.inr (.inr 103)), some (.inl i), some (.inl j), some (.inl k), some (.inr (.inl ax)), none, some (.inr (.inl ay)), none, some (.inr (.inl az)), none, some (.inr (.inl bx)), none, none, none, none, none] [.inr (.inr 135), .inr (.inl (σ 133 k))] σ _
  refine jw_W_n 1 (i' := 87) (ls' := [some (.inr (.inr 103)), some (.inl i), some (.inl j), some (.inl k), some (.inr (.inl ax)), none, some (.inr (.inl ay)), none, some (.inr (.inl az)), none, some (.inr (.inl bx)), none, none, none, none, none]) (st' := [.inl i, .inr (.inr 135), .inr (.inl (σ 133 k))]) rfl ?_
  refine jw_W_la rfl rfl (by omega) (by omega) (by omega) ?_
  show jw_W (js_S n) _ md_274 88 [some (.inr (.inr 103)), some (.inl i), some (.inl j), some (.inl k), some (.inr (.inl ax)), none, some (.inr (.inl ay)), none, some (.inr (.inl az)), none, some (.inr (.inl bx)), none, none, none, none, none] [.inr (.inl (σ 135 i)), .inr (.inl (σ 133 k))] σ _
  refine jw_W_n 2 (i' := 90) (ls' := [some (.inr (.inr 103)), some (.inl i), some (.inl j), some (.inl k), some (.inr (.inl ax)), none, some (.inr (.inl ay)), none, some (.inr (.inl az)), none, some (.inr (.inl bx)), none, none, none, none, none]) (st' := [.inr (.inr 103), .inr (.inl ((σ 133 k) * (σ 135 i)))]) rfl ?_
  refine jw_W_gf rfl rfl rfl ?_
  show jw_W (js_S n) _ md_274 91 [some (.inr (.inr 103)), some (.inl i), some (.inl j), some (.inl k), some (.inr (.inl ax)), none, some (.inr (.inl ay)), none, some (.inr (.inl az)), none, some (.inr (.inl bx)), none, none, none, none, none] [.inr (.inr 133), .inr (.inl ((σ 133 k) * (σ 135 i)))] σ _
  refine jw_W_n 1 (i' := 92) (ls' := [some (.inr (.inr 103)), some (.inl i), some (.inl j), some (.inl k), some (.inr (.inl ax)), none, some (.inr (.inl ay)), none, some (.inr (.inl az)), none, some (.inr (.inl bx)), none, none, none, none, none]) (st' := [.inl i, .inr (.inr 133), .inr (.inl ((σ 133 k) * (σ 135 i)))]) rfl ?_
  refine jw_W_la rfl rfl (by omega) (by omega) (by omega) ?_
  show jw_W (js_S n) _ md_274 93 [some (.inr (.inr 103)), some (.inl i), some (.inl j), some (.inl k), some (.inr (.inl ax)), none, some (.inr (.inl ay)), none, some (.inr (.inl az)), none, some (.inr (.inl bx)), none, none, none, none, none] [.inr (.inl (σ 133 i)), .inr (.inl ((σ 133 k) * (σ 135 i)))] σ _
  refine jw_W_n 1 (i' := 94) (ls' := [some (.inr (.inr 103)), some (.inl i), some (.inl j), some (.inl k), some (.inr (.inl ax)), none, some (.inr (.inl ay)), none, some (.inr (.inl az)), none, some (.inr (.inl bx)), none, none, none, none, none]) (st' := [.inr (.inr 103), .inr (.inl (σ 133 i)), .inr (.inl ((σ 133 k) * (σ 135 i)))]) rfl ?_
  refine jw_W_gf rfl rfl rfl ?_
  show jw_W (js_S n) _ md_274 95 [some (.inr (.inr 103)), some (.inl i), some (.inl j), some (.inl k), some (.inr (.inl ax)), none, some (.inr (.inl ay)), none, some (.inr (.inl az)), none, some (.inr (.inl bx)), none, none, none, none, none] [.inr (.inr 135), .inr (.inl (σ 133 i)), .inr (.inl ((σ 133 k) * (σ 135 i)))] σ _
  refine jw_W_n 1 (i' := 96) (ls' := [some (.inr (.inr 103)), some (.inl i), some (.inl j), some (.inl k), some (.inr (.inl ax)), none, some (.inr (.inl ay)), none, some (.inr (.inl az)), none, some (.inr (.inl bx)), none, none, none, none, none]) (st' := [.inl k, .inr (.inr 135), .inr (.inl (σ 133 i)), .inr (.inl ((σ 133 k) * (σ 135 i)))]) rfl ?_
  refine jw_W_la rfl rfl (by omega) (by omega) (by omega) ?_
  show jw_W (js_S n) _ md_274 97 [some (.inr (.inr 103)), some (.inl i), some (.inl j), some (.inl k), some (.inr (.inl ax)), none, some (.inr (.inl ay)), none, some (.inr (.inl az)), none, some (.inr (.inl bx)), none, none, none, none, none] [.inr (.inl (σ 135 k)), .inr (.inl (σ 133 i)), .inr (.inl ((σ 133 k) * (σ 135 i)))] σ _
  refine jw_W_n 2 (i' := 99) (ls' := [some (.inr (.inr 103)), some (.inl i), some (.inl j), some (.inl k), some (.inr (.inl ax)), none, some (.inr (.inl ay)), none, some (.inr (.inl az)), none, some (.inr (.inl bx)), none, none, none, none, none]) (st' := [.inr (.inl (((σ 133 k) * (σ 135 i)) - ((σ 133 i) * (σ 135 k))))]) rfl ?_
  obtain ⟨bY, ebY⟩ : ∃ w, w = ((σ 133 k) * (σ 135 i)) - ((σ 133 i) * (σ 135 k)) := ⟨_, rfl⟩
  rw [← ebY]
  have bbY : -472392 ≤ bY ∧ bY ≤ 472392 := by rw [ebY]; omega
  have ebY : bY = (ge_to (jm_ct σ i) (jm_ct σ k)).2.1 := ebY
  refine jw_W_n 2 (i' := 101) (ls' := [some (.inr (.inr 103)), some (.inl i), some (.inl j), some (.inl k), some (.inr (.inl ax)), none, some (.inr (.inl ay)), none, some (.inr (.inl az)), none, some (.inr (.inl bx)), none, some (.inr (.inl bY)), none, none, none]) (st' := [.inr (.inr 103)]) rfl ?_
  refine jw_W_gf rfl rfl rfl ?_
  show jw_W (js_S n) _ md_274 102 [some (.inr (.inr 103)), some (.inl i), some (.inl j), some (.inl k), some (.inr (.inl ax)), none, some (.inr (.inl ay)), none, some (.inr (.inl az)), none, some (.inr (.inl bx)), none, some (.inr (.inl bY)), none, none, none] [.inr (.inr 134)] σ _
  refine jw_W_n 1 (i' := 103) (ls' := [some (.inr (.inr 103)), some (.inl i), some (.inl j), some (.inl k), some (.inr (.inl ax)), none, some (.inr (.inl ay)), none, some (.inr (.inl az)), none, some (.inr (.inl bx)), none, some (.inr (.inl bY)), none, none, none]) (st' := [.inl k, .inr (.inr 134)]) rfl ?_
  refine jw_W_la rfl rfl (by omega) (by omega) (by omega) ?_
  show jw_W (js_S n) _ md_274 104 [some (.inr (.inr 103)), some (.inl i), some (.inl j), some (.inl k), some (.inr (.inl ax)), none, some (.inr (.inl ay)), none, some (.inr (.inl az)), none, some (.inr (.inl bx)), none, some (.inr (.inl bY)), none, none, none] [.inr (.inl (σ 134 k))] σ _
  refine jw_W_n 1 (i' := 105) (ls' := [some (.inr (.inr 103)), some (.inl i), some (.inl j), some (.inl k), some (.inr (.inl ax)), none, some (.inr (.inl ay)), none, some (.inr (.inl az)), none, some (.inr (.inl bx)), none, some (.inr (.inl bY)), none, none, none]) (st' := [.inr (.inr 103), .inr (.inl (σ 134 k))]) rfl ?_
  refine jw_W_gf rfl rfl rfl ?_
  show jw_W (js_S n) _ md_274 106 [some (.inr (.inr 103)), some (.inl i), some (.inl j), some (.inl k), some (.inr (.inl ax)), none, some (.inr (.inl ay)), none, some (.inr (.inl az)), none, some (.inr (.inl bx)), none, some (.inr (.inl bY)), none, none, none] [.inr (.inr 135), .inr (.inl (σ 134 k))] σ _
  refine jw_W_n 1 (i' := 107) (ls' := [some (.inr (.inr 103)), some (.inl i), some (.inl j), some (.inl k), some (.inr (.inl ax)), none, some (.inr (.inl ay)), none, some (.inr (.inl az)), none, some (.inr (.inl bx)), none, some (.inr (.inl bY)), none, none, none]) (st' := [.inl i, .inr (.inr 135), .inr (.inl (σ 134 k))]) rfl ?_
  refine jw_W_la rfl rfl (by omega) (by omega) (by omega) ?_
  show jw_W (js_S n) _ md_274 108 [some (.inr (.inr 103)), some (.inl i), some (.inl j), some (.inl k), some (.inr (.inl ax)), none, some (.inr (.inl ay)), none, some (.inr (.inl az)), none, some (.inr (.inl bx)), none, some (.inr (.inl bY)), none, none, none] [.inr (.inl (σ 135 i)), .inr (.inl (σ 134 k))] σ _
  refine jw_W_n 2 (i' := 110) (ls' := [some (.inr (.inr 103)), some (.inl i), some (.inl j), some (.inl k), some (.inr (.inl ax)), none, some (.inr (.inl ay)), none, some (.inr (.inl az)), none, some (.inr (.inl bx)), none, some (.inr (.inl bY)), none, none, none]) (st' := [.inr (.inr 103), .inr (.inl ((σ 134 k) * (σ 135 i)))]) rfl ?_
  refine jw_W_gf rfl rfl rfl ?_
  show jw_W (js_S n) _ md_274 111 [some (.inr (.inr 103)), some (.inl i), some (.inl j), some (.inl k), some (.inr (.inl ax)), none, some (.inr (.inl ay)), none, some (.inr (.inl az)), none, some (.inr (.inl bx)), none, some (.inr (.inl bY)), none, none, none] [.inr (.inr 134), .inr (.inl ((σ 134 k) * (σ 135 i)))] σ _
  refine jw_W_n 1 (i' := 112) (ls' := [some (.inr (.inr 103)), some (.inl i), some (.inl j), some (.inl k), some (.inr (.inl ax)), none, some (.inr (.inl ay)), none, some (.inr (.inl az)), none, some (.inr (.inl bx)), none, some (.inr (.inl bY)), none, none, none]) (st' := [.inl i, .inr (.inr 134), .inr (.inl ((σ 134 k) * (σ 135 i)))]) rfl ?_
  refine jw_W_la rfl rfl (by omega) (by omega) (by omega) ?_
  show jw_W (js_S n) _ md_274 113 [some (.inr (.inr 103)), some (.inl i), some (.inl j), some (.inl k), some (.inr (.inl ax)), none, some (.inr (.inl ay)), none, some (.inr (.inl az)), none, some (.inr (.inl bx)), none, some (.inr (.inl bY)), none, none, none] [.inr (.inl (σ 134 i)), .inr (.inl ((σ 134 k) * (σ 135 i)))] σ _
  refine jw_W_n 1 (i' := 114) (ls' := [some (.inr (.inr 103)), some (.inl i), some (.inl j), some (.inl k), some (.inr (.inl ax)), none, some (.inr (.inl ay)), none, some (.inr (.inl az)), none, some (.inr (.inl bx)), none, some (.inr (.inl bY)), none, none, none]) (st' := [.inr (.inr 103), .inr (.inl (σ 134 i)), .inr (.inl ((σ 134 k) * (σ 135 i)))]) rfl ?_
  refine jw_W_gf rfl rfl rfl ?_
  show jw_W (js_S n) _ md_274 115 [some (.inr (.inr 103)), some (.inl i), some (.inl j), some (.inl k), some (.inr (.inl ax)), none, some (.inr (.inl ay)), none, some (.inr (.inl az)), none, some (.inr (.inl bx)), none, some (.inr (.inl bY)), none, none, none] [.inr (.inr 135), .inr (.inl (σ 134 i)), .inr (.inl ((σ 134 k) * (σ 135 i)))] σ _
  refine jw_W_n 1 (i' := 116) (ls' := [some (.inr (.inr 103)), some (.inl i), some (.inl j), some (.inl k), some (.inr (.inl ax)), none, some (.inr (.inl ay)), none, some (.inr (.inl az)), none, some (.inr (.inl bx)), none, some (.inr (.inl bY)), none, none, none]) (st' := [.inl k, .inr (.inr 135), .inr (.inl (σ 134 i)), .inr (.inl ((σ 134 k) * (σ 135 i)))]) rfl ?_
  refine jw_W_la rfl rfl (by omega) (by omega) (by omega) ?_
  show jw_W (js_S n) _ md_274 117 [some (.inr (.inr 103)), some (.inl i), some (.inl j), some (.inl k), some (.inr (.inl ax)), none, some (.inr (.inl ay)), none, some (.inr (.inl az)), none, some (.inr (.inl bx)), none, some (.inr (.inl bY)), none, none, none] [.inr (.inl (σ 135 k)), .inr (.inl (σ 134 i)), .inr (.inl ((σ 134 k) * (σ 135 i)))] σ _
  refine jw_W_n 2 (i' := 119) (ls' := [some (.inr (.inr 103)), some (.inl i), some (.inl j), some (.inl k), some (.inr (.inl ax)), none, some (.inr (.inl ay)), none, some (.inr (.inl az)), none, some (.inr (.inl bx)), none, some (.inr (.inl bY)), none, none, none]) (st' := [.inr (.inl (((σ 134 k) * (σ 135 i)) - ((σ 134 i) * (σ 135 k))))]) rfl ?_
  obtain ⟨bz, ebz⟩ : ∃ w, w = ((σ 134 k) * (σ 135 i)) - ((σ 134 i) * (σ 135 k)) := ⟨_, rfl⟩
  rw [← ebz]
  have bbz : -472392 ≤ bz ∧ bz ≤ 472392 := by rw [ebz]; omega
  have ebz : bz = (ge_to (jm_ct σ i) (jm_ct σ k)).2.2 := ebz
  refine jw_W_n 1 (i' := 120) (ls' := [some (.inr (.inr 103)), some (.inl i), some (.inl j), some (.inl k), some (.inr (.inl ax)), none, some (.inr (.inl ay)), none, some (.inr (.inl az)), none, some (.inr (.inl bx)), none, some (.inr (.inl bY)), none, some (.inr (.inl bz)), none]) (st' := []) rfl ?_
  have m1 := jx_mm bax bbY
  have m2 := jx_mm bay bbx
  have m3 := jx_mm bax bbz
  have m4 := jx_mm baz bbx
  have m5 := jx_mm bay bbz
  have m6 := jx_mm baz bbY
  refine jw_W_n 6 (i' := 126) (ls' := [some (.inr (.inr 103)), some (.inl i), some (.inl j), some (.inl k), some (.inr (.inl ax)), none, some (.inr (.inl ay)), none, some (.inr (.inl az)), none, some (.inr (.inl bx)), none, some (.inr (.inl bY)), none, some (.inr (.inl bz)), none]) (st' := [.inr (.inl (ay * bx)), .inr (.inl (ax * bY))]) rfl ?_
  refine jw_W_lc rfl rfl (by unfold jw_rgl; omega) (by unfold jw_rgl; omega) (fun hc1 => ?_) (fun hc1 => ?_)
  · have hc1 : (ax * bY) ≠ (ay * bx) := hc1
    refine jw_W_n 1 (i' := 147) (ls' := [some (.inr (.inr 103)), some (.inl i), some (.inl j), some (.inl k), some (.inr (.inl ax)), none, some (.inr (.inl ay)), none, some (.inr (.inl az)), none, some (.inr (.inl bx)), none, some (.inr (.inl bY)), none, some (.inr (.inl bz)), none]) (st' := [.inl 0]) rfl ?_
    refine jw_W_ir rfl ?_
    exact .inr ⟨rfl, rfl, fun hh => hh (fun hz => by simp only [jm_X] at hz; rw [← eax, ← eay, ← eaz, ← ebx, ← ebY, ← ebz] at hz; omega)⟩
  · have hc1 : (ax * bY) = (ay * bx) := Classical.not_not.mp hc1
    refine jw_W_n 6 (i' := 134) (ls' := [some (.inr (.inr 103)), some (.inl i), some (.inl j), some (.inl k), some (.inr (.inl ax)), none, some (.inr (.inl ay)), none, some (.inr (.inl az)), none, some (.inr (.inl bx)), none, some (.inr (.inl bY)), none, some (.inr (.inl bz)), none]) (st' := [.inr (.inl (az * bx)), .inr (.inl (ax * bz))]) rfl ?_
    refine jw_W_lc rfl rfl (by unfold jw_rgl; omega) (by unfold jw_rgl; omega) (fun hc2 => ?_) (fun hc2 => ?_)
    · have hc2 : (ax * bz) ≠ (az * bx) := hc2
      refine jw_W_n 1 (i' := 147) (ls' := [some (.inr (.inr 103)), some (.inl i), some (.inl j), some (.inl k), some (.inr (.inl ax)), none, some (.inr (.inl ay)), none, some (.inr (.inl az)), none, some (.inr (.inl bx)), none, some (.inr (.inl bY)), none, some (.inr (.inl bz)), none]) (st' := [.inl 0]) rfl ?_
      refine jw_W_ir rfl ?_
      exact .inr ⟨rfl, rfl, fun hh => hh (fun hz => by simp only [jm_X] at hz; rw [← eax, ← eay, ← eaz, ← ebx, ← ebY, ← ebz] at hz; omega)⟩
    · have hc2 : (ax * bz) = (az * bx) := Classical.not_not.mp hc2
      refine jw_W_n 6 (i' := 142) (ls' := [some (.inr (.inr 103)), some (.inl i), some (.inl j), some (.inl k), some (.inr (.inl ax)), none, some (.inr (.inl ay)), none, some (.inr (.inl az)), none, some (.inr (.inl bx)), none, some (.inr (.inl bY)), none, some (.inr (.inl bz)), none]) (st' := [.inr (.inl (az * bY)), .inr (.inl (ay * bz))]) rfl ?_
      refine jw_W_lc rfl rfl (by unfold jw_rgl; omega) (by unfold jw_rgl; omega) (fun hc3 => ?_) (fun hc3 => ?_)
      · have hc3 : (ay * bz) ≠ (az * bY) := hc3
        refine jw_W_n 1 (i' := 147) (ls' := [some (.inr (.inr 103)), some (.inl i), some (.inl j), some (.inl k), some (.inr (.inl ax)), none, some (.inr (.inl ay)), none, some (.inr (.inl az)), none, some (.inr (.inl bx)), none, some (.inr (.inl bY)), none, some (.inr (.inl bz)), none]) (st' := [.inl 0]) rfl ?_
        refine jw_W_ir rfl ?_
        exact .inr ⟨rfl, rfl, fun hh => hh (fun hz => by simp only [jm_X] at hz; rw [← eax, ← eay, ← eaz, ← ebx, ← ebY, ← ebz] at hz; omega)⟩
      · have hc3 : (ay * bz) = (az * bY) := Classical.not_not.mp hc3
        refine jw_W_n 2 (i' := 147) (ls' := [some (.inr (.inr 103)), some (.inl i), some (.inl j), some (.inl k), some (.inr (.inl ax)), none, some (.inr (.inl ay)), none, some (.inr (.inl az)), none, some (.inr (.inl bx)), none, some (.inr (.inl bY)), none, some (.inr (.inl bz)), none]) (st' := [.inl 1]) rfl ?_
        refine jw_W_ir rfl ?_
        exact .inl ⟨rfl, rfl, fun hh => hh (by simp only [jm_X]; rw [← eax, ← eay, ← eaz, ← ebx, ← ebY, ← ebz]; omega)⟩
/-- no three corners on a plane, so far -/
def jm_nf (σ : jw_H) (k i j l : Int) : Prop := ∀ a b c : Int, 0 ≤ a → a < b → b < c → c < σ 103 56 → jx_bf i j l a b c → ¬ (jb_in (σ 136 a) k.toNat ∧ jb_in (σ 136 b) k.toNat ∧ jb_in (σ 136 c) k.toNat)
theorem jm_nf_s {σ : jw_H} {k i j l : Int} (h : jm_nf σ k i j l) (hn : ¬ (jb_in (σ 136 i) k.toNat ∧ jb_in (σ 136 j) k.toNat ∧ jb_in (σ 136 l) k.toNat)) : jm_nf σ k i j (l + 1) := by
  intro a b c h1 h2 h3 h4 h5
  by_cases e : a = i ∧ b = j ∧ c = l
  · obtain ⟨rfl, rfl, rfl⟩ := e
    exact hn
  · exact h a b c h1 h2 h3 h4 (by unfold jx_bf at *; omega)
theorem jm_nf_re {σ : jw_H} {k i j l i' j' l' : Int} (h : jm_nf σ k i j l) (he : ∀ a b c, 0 ≤ a → a < b → b < c → c < σ 103 56 → jx_bf i' j' l' a b c → jx_bf i j l a b c) : jm_nf σ k i' j' l' := fun a b c h1 h2 h3 h4 h5 => h a b c h1 h2 h3 h4 (he a b c h1 h2 h3 h4 h5)
theorem jm_fc_no {σ : jw_H} {k j l : Int} (hn : 0 ≤ σ 103 56) (h : jm_nf σ k (σ 103 56) j l) : ¬ jm_fc σ k := by
  rintro ⟨-, h2⟩
  obtain ⟨a, b, c, h1, h2, h3, h4, h5, h6, h7⟩ := jx_cn_3.mp h2
  exact h a b c h1 h2 h3 (by omega) (by unfold jx_bf; omega) ⟨h5, h6, h7⟩
theorem jm_and3 {s t u : Int} (hs : 0 ≤ s ∧ s ≤ 1023) (ht : 0 ≤ t ∧ t ≤ 1023) (hu : 0 ≤ u ∧ u ≤ 1023) : (0 ≤ jw_and (jw_and s t) u ∧ jw_and (jw_and s t) u ≤ 1023) ∧ ∀ b : Nat, jb_in (jw_and (jw_and s t) u) b ↔ jb_in s b ∧ jb_in t b ∧ jb_in u b := by
  have e1 := jb_and hs.1 (by omega) ht.1 (by omega)
  have l1 : s.toNat &&& t.toNat ≤ s.toNat := Nat.and_le_left
  have h1 : 0 ≤ jw_and s t ∧ jw_and s t ≤ 1023 := by
    rw [e1]
    omega
  have e2 := jb_and h1.1 (by omega) hu.1 (by omega)
  have l2 : (jw_and s t).toNat &&& u.toNat ≤ (jw_and s t).toNat := Nat.and_le_left
  refine ⟨by rw [e2]; omega, fun b => ?_⟩
  rw [jm_and_in ⟨h1.1, by omega⟩ ⟨hu.1, by omega⟩ b, jm_and_in ⟨hs.1, by omega⟩ ⟨ht.1, by omega⟩ b, and_assoc]
theorem jm_face_l {n : Nat} {σ : jw_H} {D : Nat} {i j k : Int} {Q : Option jw_V → jw_H → Prop} (hD : 2 ≤ D) {C : List (ge_R × Int)} (hKN : jm_KN σ C) (k0 : 0 ≤ k) (k1 : k < 20) (hY : (∃ a b c : Int, 0 ≤ a ∧ a < b ∧ b < c ∧ c < σ 103 56 ∧ jb_in (σ 136 a) k.toNat ∧ jb_in (σ 136 b) k.toNat ∧ jb_in (σ 136 c) k.toNat) → Q (some (.inl 1)) σ) (i0 : 0 ≤ i) (ij : i < j) (j1 : j < σ 103 56) (hQ : jm_nf σ k i j (σ 103 56) → jw_W (js_S n) D md_275 55 [some (.inr (.inr 103)), some (.inl k), some (.inl i), some (.inl j), some (.inl (σ 103 56))] [] σ Q) : ∀ (f : Nat) {l : Int}, j < l → l + f = σ 103 56 → jm_nf σ k i j l → jw_W (js_S n) D md_275 24 [some (.inr (.inr 103)), some (.inl k), some (.inl i), some (.inl j), some (.inl l)] [] σ Q
  | f, l, jl, hk, H => by
    have ih : l < σ 103 56 → jm_nf σ k i j (l + 1) → jw_W (js_S n) D md_275 24 [some (.inr (.inr 103)), some (.inl k), some (.inl i), some (.inl j), some (.inl (l + 1))] [] σ Q := by
      intro h1 h2
      match f, hk with
      | 0, hk => omega
      | f + 1, hk => exact jm_face_l hD hKN k0 k1 hY i0 ij j1 hQ f (by omega) (by omega) h2
    have hcb := (jm_kw_cbd hKN.1).2 σ (jm_fk_rf σ)
    have hcn := hcb.1
    have hPm := hKN.1.1
    have hqq := hPm.1
    have hww := hPm.2.1
    have hkk := hPm.2.2.1
    have hg57 := hKN.2.2.1.1
    have hg58 := hKN.2.2.2.1.1
    refine jw_W_n 2 (i' := 26) (ls' := [some (.inr (.inr 103)), some (.inl k), some (.inl i), some (.inl j), some (.inl l)]) (st' := [.inr (.inr 103), .inl l]) rfl ?_
    refine jw_W_gf rfl rfl rfl ?_
    show jw_W (js_S n) _ md_275 27 [some (.inr (.inr 103)), some (.inl k), some (.inl i), some (.inl j), some (.inl l)] [.inl (σ 103 56), .inl l] σ _
    refine jw_W_ic rfl (by unfold jw_rg; omega) (by unfold jw_rg; omega) (fun hc1 => ?_) (fun hc1 => ?_)
    · have hc1 : l ≥ (σ 103 56) := hc1
      have hkl : l = σ 103 56 := by omega
      subst hkl
      exact hQ H
    · have hc1 : ¬ (l ≥ (σ 103 56)) := hc1
      have hand := jm_and3 (jm_tg hKN i0 (show i < σ 103 56 by omega)).1 (jm_tg hKN (show 0 ≤ j by omega) (show j < σ 103 56 by omega)).1 (jm_tg hKN (show 0 ≤ l by omega) (show l < σ 103 56 by omega)).1
      refine jw_W_n 1 (i' := 29) (ls' := [some (.inr (.inr 103)), some (.inl k), some (.inl i), some (.inl j), some (.inl l)]) (st' := [.inr (.inr 103)]) rfl ?_
      refine jw_W_gf rfl rfl rfl ?_
      show jw_W (js_S n) _ md_275 30 [some (.inr (.inr 103)), some (.inl k), some (.inl i), some (.inl j), some (.inl l)] [.inr (.inr 136)] σ _
      refine jw_W_n 1 (i' := 31) (ls' := [some (.inr (.inr 103)), some (.inl k), some (.inl i), some (.inl j), some (.inl l)]) (st' := [.inl i, .inr (.inr 136)]) rfl ?_
      refine jw_W_ia rfl rfl (by omega) (by omega) (by omega) ?_
      show jw_W (js_S n) _ md_275 32 [some (.inr (.inr 103)), some (.inl k), some (.inl i), some (.inl j), some (.inl l)] [.inl (σ 136 i)] σ _
      refine jw_W_n 1 (i' := 33) (ls' := [some (.inr (.inr 103)), some (.inl k), some (.inl i), some (.inl j), some (.inl l)]) (st' := [.inr (.inr 103), .inl (σ 136 i)]) rfl ?_
      refine jw_W_gf rfl rfl rfl ?_
      show jw_W (js_S n) _ md_275 34 [some (.inr (.inr 103)), some (.inl k), some (.inl i), some (.inl j), some (.inl l)] [.inr (.inr 136), .inl (σ 136 i)] σ _
      refine jw_W_n 1 (i' := 35) (ls' := [some (.inr (.inr 103)), some (.inl k), some (.inl i), some (.inl j), some (.inl l)]) (st' := [.inl j, .inr (.inr 136), .inl (σ 136 i)]) rfl ?_
      refine jw_W_ia rfl rfl (by omega) (by omega) (by omega) ?_
      show jw_W (js_S n) _ md_275 36 [some (.inr (.inr 103)), some (.inl k), some (.inl i), some (.inl j), some (.inl l)] [.inl (σ 136 j), .inl (σ 136 i)] σ _
      refine jw_W_n 2 (i' := 38) (ls' := [some (.inr (.inr 103)), some (.inl k), some (.inl i), some (.inl j), some (.inl l)]) (st' := [.inr (.inr 103), .inl (jw_and (σ 136 i) (σ 136 j))]) rfl ?_
      refine jw_W_gf rfl rfl rfl ?_
      show jw_W (js_S n) _ md_275 39 [some (.inr (.inr 103)), some (.inl k), some (.inl i), some (.inl j), some (.inl l)] [.inr (.inr 136), .inl (jw_and (σ 136 i) (σ 136 j))] σ _
      refine jw_W_n 1 (i' := 40) (ls' := [some (.inr (.inr 103)), some (.inl k), some (.inl i), some (.inl j), some (.inl l)]) (st' := [.inl l, .inr (.inr 136), .inl (jw_and (σ 136 i) (σ 136 j))]) rfl ?_
      refine jw_W_ia rfl rfl (by omega) (by omega) (by omega) ?_
      show jw_W (js_S n) _ md_275 41 [some (.inr (.inr 103)), some (.inl k), some (.inl i), some (.inl j), some (.inl l)] [.inl (σ 136 l), .inl (jw_and (σ 136 i) (σ 136 j))] σ _
      refine jw_W_n 2 (i' := 43) (ls' := [some (.inr (.inr 103)), some (.inl k), some (.inl i), some (.inl j), some (.inl l)]) (st' := [.inl k, .inl (jw_and (jw_and (σ 136 i) (σ 136 j)) (σ 136 l))]) rfl ?_
      refine jw_W_call (as := [.inl (jw_and (jw_and (σ 136 i) (σ 136 j)) (σ 136 l)), .inl k]) (rest := []) rfl rfl rfl rfl (Nat.le_of_ble_eq_true rfl) (.inl rfl) (jm_has hand.1.1 (by omega) k0 (by omega)) (by omega) ?_ rfl
      rintro r1 σz (⟨rfl, hs, hin⟩ | ⟨rfl, hs, hin⟩)
      · rw [hs]
        show jw_W (js_S n) _ md_275 44 [some (.inr (.inr 103)), some (.inl k), some (.inl i), some (.inl j), some (.inl l)] [.inl 1] σ _
        refine jw_W_if rfl (by unfold jw_rg; omega) (fun hc2 => ?_) (fun hc2 => ?_)
        · exact absurd hc2 (show ¬ ((1 : Int) = 0) by omega)
        · clear hc2
          refine jw_W_n 4 (i' := 49) (ls' := [some (.inr (.inr 103)), some (.inl k), some (.inl i), some (.inl j), some (.inl l)]) (st' := [.inl l, .inl j, .inl i, .inr (.inr 103)]) rfl ?_
          refine jw_W_call (as := [.inr (.inr 103), .inl i, .inl j, .inl l]) (rest := []) rfl rfl rfl rfl (Nat.le_of_ble_eq_true rfl) (.inr rfl) (jm_areInLine hKN i0 (by omega) (by omega) (by omega) (by omega) (by omega)) (by omega) ?_ rfl
          rintro r1 σz (⟨rfl, hs, hil⟩ | ⟨rfl, hs, hil⟩)
          · rw [hs]
            show jw_W (js_S n) _ md_275 50 [some (.inr (.inr 103)), some (.inl k), some (.inl i), some (.inl j), some (.inl l)] [.inl 1] σ _
            refine jw_W_if rfl (by unfold jw_rg; omega) (fun hc3 => ?_) (fun hc3 => ?_)
            · clear hc3
              refine jw_W_n 2 (i' := 24) (ls' := [some (.inr (.inr 103)), some (.inl k), some (.inl i), some (.inl j), some (.inl (l + 1))]) (st' := []) rfl ?_
              first
              | exact ih (by omega) (jm_nf_s H (fun hh => hin ((hand.2 k.toNat).mpr hh)))
              | exact absurd (ge_noline (jm_tg hKN i0 (by omega)).2.2.1 (jm_tg hKN (show 0 ≤ j by omega) (by omega)).2.2.1 (jm_tg hKN (show 0 ≤ l by omega) (by omega)).2.2.1 (jm_ct_ne hKN i0 (by omega) (by omega)).2 (jm_ct_ne hKN i0 (by omega) (by omega)).2 (jm_ct_ne hKN (by omega) (by omega) (by omega)).2) hil
            · exact absurd hc3 (show ¬ ¬ ((1 : Int) ≠ 0) by omega)
          · rw [hs]
            show jw_W (js_S n) _ md_275 50 [some (.inr (.inr 103)), some (.inl k), some (.inl i), some (.inl j), some (.inl l)] [.inl 0] σ _
            refine jw_W_if rfl (by unfold jw_rg; omega) (fun hc4 => ?_) (fun hc4 => ?_)
            · exact absurd hc4 (show ¬ ((0 : Int) ≠ 0) by omega)
            · clear hc4
              refine jw_W_n 1 (i' := 52) (ls' := [some (.inr (.inr 103)), some (.inl k), some (.inl i), some (.inl j), some (.inl l)]) (st' := [.inl 1]) rfl ?_
              refine jw_W_ir rfl ?_
              have h3 := (hand.2 k.toNat).mp hin
              exact hY ⟨i, j, l, i0, by omega, by omega, by omega, h3⟩
      · rw [hs]
        show jw_W (js_S n) _ md_275 44 [some (.inr (.inr 103)), some (.inl k), some (.inl i), some (.inl j), some (.inl l)] [.inl 0] σ _
        refine jw_W_if rfl (by unfold jw_rg; omega) (fun hc5 => ?_) (fun hc5 => ?_)
        · clear hc5
          refine jw_W_n 2 (i' := 24) (ls' := [some (.inr (.inr 103)), some (.inl k), some (.inl i), some (.inl j), some (.inl (l + 1))]) (st' := []) rfl ?_
          first
          | exact ih (by omega) (jm_nf_s H (fun hh => hin ((hand.2 k.toNat).mpr hh)))
          | exact absurd (ge_noline (jm_tg hKN i0 (by omega)).2.2.1 (jm_tg hKN (show 0 ≤ j by omega) (by omega)).2.2.1 (jm_tg hKN (show 0 ≤ l by omega) (by omega)).2.2.1 (jm_ct_ne hKN i0 (by omega) (by omega)).2 (jm_ct_ne hKN i0 (by omega) (by omega)).2 (jm_ct_ne hKN (by omega) (by omega) (by omega)).2) hil
        · exact absurd hc5 (show ¬ ¬ ((0 : Int) = 0) by omega)
theorem jm_face_j {n : Nat} {σ : jw_H} {D : Nat} {i k : Int} {Q : Option jw_V → jw_H → Prop} (hD : 2 ≤ D) {C : List (ge_R × Int)} (hKN : jm_KN σ C) (k0 : 0 ≤ k) (k1 : k < 20) (hY : (∃ a b c : Int, 0 ≤ a ∧ a < b ∧ b < c ∧ c < σ 103 56 ∧ jb_in (σ 136 a) k.toNat ∧ jb_in (σ 136 b) k.toNat ∧ jb_in (σ 136 c) k.toNat) → Q (some (.inl 1)) σ) (i0 : 0 ≤ i) (hQ : ∀ v, jm_nf σ k i (σ 103 56) (σ 103 56 + 1) → jw_W (js_S n) D md_275 57 [some (.inr (.inr 103)), some (.inl k), some (.inl i), some (.inl (σ 103 56)), v] [] σ Q) : ∀ (f : Nat) {j : Int} {a4 : Option jw_V}, i < j → j + f = σ 103 56 → jm_nf σ k i j (j + 1) → jw_W (js_S n) D md_275 16 [some (.inr (.inr 103)), some (.inl k), some (.inl i), some (.inl j), a4] [] σ Q
  | f, j, a4, ij, hk, H => by
    have ih : ∀ {a4 : Option jw_V}, j < σ 103 56 → jm_nf σ k i (j + 1) (j + 1 + 1) → jw_W (js_S n) D md_275 16 [some (.inr (.inr 103)), some (.inl k), some (.inl i), some (.inl (j + 1)), a4] [] σ Q := by
      intro a4 h1 h2
      match f, hk with
      | 0, hk => omega
      | f + 1, hk => exact jm_face_j hD hKN k0 k1 hY i0 hQ f (by omega) (by omega) h2
    have hcb := (jm_kw_cbd hKN.1).2 σ (jm_fk_rf σ)
    have hcn := hcb.1
    have hPm := hKN.1.1
    have hqq := hPm.1
    have hww := hPm.2.1
    have hkk := hPm.2.2.1
    have hg57 := hKN.2.2.1.1
    have hg58 := hKN.2.2.2.1.1
    refine jw_W_n 2 (i' := 18) (ls' := [some (.inr (.inr 103)), some (.inl k), some (.inl i), some (.inl j), a4]) (st' := [.inr (.inr 103), .inl j]) rfl ?_
    refine jw_W_gf rfl rfl rfl ?_
    show jw_W (js_S n) _ md_275 19 [some (.inr (.inr 103)), some (.inl k), some (.inl i), some (.inl j), a4] [.inl (σ 103 56), .inl j] σ _
    refine jw_W_ic rfl (by unfold jw_rg; omega) (by unfold jw_rg; omega) (fun hc1 => ?_) (fun hc1 => ?_)
    · have hc1 : j ≥ (σ 103 56) := hc1
      have hkl : j = σ 103 56 := by omega
      subst hkl
      exact hQ _ H
    · have hc1 : ¬ (j ≥ (σ 103 56)) := hc1
      refine jw_W_n 4 (i' := 24) (ls' := [some (.inr (.inr 103)), some (.inl k), some (.inl i), some (.inl j), some (.inl (j + 1))]) (st' := []) rfl ?_
      refine jm_face_l hD hKN k0 k1 hY i0 ij (by omega) (fun H4 => ?_) (σ 103 56 - (j + 1)).toNat (l := j + 1) (by omega) (by omega) H
      refine jw_W_n 2 (i' := 16) (ls' := [some (.inr (.inr 103)), some (.inl k), some (.inl i), some (.inl (j + 1)), some (.inl (σ 103 56))]) (st' := []) rfl ?_
      exact ih (by omega) (jm_nf_re H4 (fun a b c _ _ _ _ => by unfold jx_bf; omega))
theorem jm_face_i {n : Nat} {σ : jw_H} {D : Nat} {k : Int} {Q : Option jw_V → jw_H → Prop} (hD : 2 ≤ D) {C : List (ge_R × Int)} (hKN : jm_KN σ C) (k0 : 0 ≤ k) (k1 : k < 20) (hY : (∃ a b c : Int, 0 ≤ a ∧ a < b ∧ b < c ∧ c < σ 103 56 ∧ jb_in (σ 136 a) k.toNat ∧ jb_in (σ 136 b) k.toNat ∧ jb_in (σ 136 c) k.toNat) → Q (some (.inl 1)) σ) (hQ : jm_nf σ k (σ 103 56) (σ 103 56 + 1) (σ 103 56 + 1 + 1) → Q (some (.inl 0)) σ) : ∀ (f : Nat) {i : Int} {a3 a4 : Option jw_V}, 0 ≤ i → i + f = σ 103 56 → jm_nf σ k i (i + 1) (i + 1 + 1) → jw_W (js_S n) D md_275 8 [some (.inr (.inr 103)), some (.inl k), some (.inl i), a3, a4] [] σ Q
  | f, i, a3, a4, i0, hk, H => by
    have ih : ∀ {a3 a4 : Option jw_V}, i < σ 103 56 → jm_nf σ k (i + 1) (i + 1 + 1) (i + 1 + 1 + 1) → jw_W (js_S n) D md_275 8 [some (.inr (.inr 103)), some (.inl k), some (.inl (i + 1)), a3, a4] [] σ Q := by
      intro a3 a4 h1 h2
      match f, hk with
      | 0, hk => omega
      | f + 1, hk => exact jm_face_i hD hKN k0 k1 hY hQ f (by omega) (by omega) h2
    have hcb := (jm_kw_cbd hKN.1).2 σ (jm_fk_rf σ)
    have hcn := hcb.1
    have hPm := hKN.1.1
    have hqq := hPm.1
    have hww := hPm.2.1
    have hkk := hPm.2.2.1
    have hg57 := hKN.2.2.1.1
    have hg58 := hKN.2.2.2.1.1
    refine jw_W_n 2 (i' := 10) (ls' := [some (.inr (.inr 103)), some (.inl k), some (.inl i), a3, a4]) (st' := [.inr (.inr 103), .inl i]) rfl ?_
    refine jw_W_gf rfl rfl rfl ?_
    show jw_W (js_S n) _ md_275 11 [some (.inr (.inr 103)), some (.inl k), some (.inl i), a3, a4] [.inl (σ 103 56), .inl i] σ _
    refine jw_W_ic rfl (by unfold jw_rg; omega) (by unfold jw_rg; omega) (fun hc1 => ?_) (fun hc1 => ?_)
    · have hc1 : i ≥ (σ 103 56) := hc1
      refine jw_W_n 1 (i' := 60) (ls' := [some (.inr (.inr 103)), some (.inl k), some (.inl i), a3, a4]) (st' := [.inl 0]) rfl ?_
      refine jw_W_ir rfl ?_
      have hkl : i = σ 103 56 := by omega
      subst hkl
      exact hQ H
    · have hc1 : ¬ (i ≥ (σ 103 56)) := hc1
      refine jw_W_n 4 (i' := 16) (ls' := [some (.inr (.inr 103)), some (.inl k), some (.inl i), some (.inl (i + 1)), a4]) (st' := []) rfl ?_
      refine jm_face_j hD hKN k0 k1 hY i0 (fun v4 H4 => ?_) (σ 103 56 - (i + 1)).toNat (j := i + 1) (by omega) (by omega) H
      refine jw_W_n 2 (i' := 8) (ls' := [some (.inr (.inr 103)), some (.inl k), some (.inl (i + 1)), some (.inl (σ 103 56)), v4]) (st' := []) rfl ?_
      exact ih (by omega) (jm_nf_re H4 (fun a b c _ _ _ _ => by unfold jx_bf; omega))
theorem jm_isFace {n : Nat} {σ : jw_H} {C : List (ge_R × Int)} (hKN : jm_KN σ C) {k : Int} (k0 : 0 ≤ k) (k1 : k < 20)  : jw_T (js_S n) 3 275 [.inr (.inr 103), .inl k] σ (fun r σ' => (r = some (.inl 1) ∧ σ' = σ ∧ (jm_fc σ k)) ∨ (r = some (.inl 0) ∧ σ' = σ ∧ ¬ (jm_fc σ k))) := by
  refine jw_T_of (D := 2) (M := mm_275) rfl (Nat.le_of_ble_eq_true rfl) (ls0 := [some (.inr (.inr 103)), some (.inl k), none, none, none]) rfl ?_ (by rintro _ _ (⟨rfl, -⟩ | ⟨rfl, -⟩) <;> rfl)
  have hcb := (jm_kw_cbd hKN.1).2 σ (jm_fk_rf σ)
  have hcn := hcb.1
  have hPm := hKN.1.1
  have hqq := hPm.1
  have hww := hPm.2.1
  have hkk := hPm.2.2.1
  have hg57 := hKN.2.2.1.1
  have hg58 := hKN.2.2.2.1.1
  refine jw_W_n 1 (i' := 1) (ls' := [some (.inr (.inr 103)), some (.inl k), none, none, none]) (st' := [.inr (.inr 103)]) rfl ?_
  refine jw_W_gf rfl rfl rfl ?_
  show jw_W (js_S n) _ md_275 2 [some (.inr (.inr 103)), some (.inl k), none, none, none] [.inl (σ 103 3)] σ _
  refine jw_W_n 1 (i' := 3) (ls' := [some (.inr (.inr 103)), some (.inl k), none, none, none]) (st' := [.inl 3, .inl (σ 103 3)]) rfl ?_
  refine jw_W_ic rfl (by unfold jw_rg; omega) (by unfold jw_rg; omega) (fun hc1 => ?_) (fun hc1 => ?_)
  · have hc1 : (σ 103 3) ≥ 3 := hc1
    refine jw_W_n 2 (i' := 8) (ls' := [some (.inr (.inr 103)), some (.inl k), some (.inl 0), none, none]) (st' := []) rfl ?_
    refine jm_face_i (D := 2) (by omega) hKN k0 k1 (fun hh => .inl ⟨rfl, rfl, by omega, jx_cn_3.mpr ?_⟩) (fun hh => .inr ⟨rfl, rfl, jm_fc_no (by omega) hh⟩) (σ 103 56).toNat (i := 0) (by omega) (by omega) (fun a b c h1 h2 h3 h4 h5 => by unfold jx_bf at h5; omega)
    obtain ⟨a, b, c, h1, h2, h3, h4, h5⟩ := hh
    exact ⟨a, b, c, h1, h2, h3, by omega, h5⟩
  · have hc1 : ¬ ((σ 103 3) ≥ 3) := hc1
    refine jw_W_n 1 (i' := 5) (ls' := [some (.inr (.inr 103)), some (.inl k), none, none, none]) (st' := [.inl 0]) rfl ?_
    refine jw_W_ir rfl ?_
    exact .inr ⟨rfl, rfl, fun hh => by have := hh.1; omega⟩

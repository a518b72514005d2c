/-! ===== the class: its first answers ===== -/
/-- the class's scratch, all of it -/
def jx_fx (σ0 σ : jw_H) : Prop := (∀ c, c ≠ 13 → c ≠ 57 → (c < 47 ∨ (56 < c ∧ c < 64) ∨ 102 < c) → σ c = σ0 c) ∧ (∀ j, j ≠ 9 → σ 57 j = σ0 57 j) ∧ ∀ j, j ≠ 16 → σ 13 j = σ0 13 j
theorem jx_fx_rf (σ : jw_H) : jx_fx σ σ := ⟨fun _ _ _ _ => rfl, fun _ _ => rfl, fun _ _ => rfl⟩
theorem jx_fx_tr {σ σ1 σ2 : jw_H} (a : jx_fx σ σ1) (b : jx_fx σ1 σ2) : jx_fx σ σ2 := ⟨fun o h1 h2 h3 => (b.1 o h1 h2 h3).trans (a.1 o h1 h2 h3), fun j h => (b.2.1 j h).trans (a.2.1 j h), fun j h => (b.2.2 j h).trans (a.2.2 j h)⟩
theorem jx_fx_me {σ0 σ : jw_H} (h : jx_fx σ0 σ) : jx_me σ0 σ := fun c hc => h.1 c (by omega) (by omega) (by omega)
theorem jx_fj_x {σ0 σ : jw_H} (h : jx_fj σ0 σ) : jx_fx σ0 σ := ⟨fun c _ h2 h3 => h.1 c h2 (by omega), h.2, fun j _ => by rw [h.1 13 (by omega) (by omega)]⟩
/-- scratch but what judge lays -/
def jx_fy (σ0 σ : jw_H) : Prop := (∀ c, c ≠ 13 → (c < 47 ∨ (56 < c ∧ c < 65) ∨ (65 < c ∧ c < 92) ∨ 102 < c) → σ c = σ0 c) ∧ ∀ j, j ≠ 16 → σ 13 j = σ0 13 j
theorem jx_fy_rf (σ : jw_H) : jx_fy σ σ := ⟨fun _ _ _ => rfl, fun _ _ => rfl⟩
theorem jx_fy_tr {σ σ1 σ2 : jw_H} (a : jx_fy σ σ1) (b : jx_fy σ1 σ2) : jx_fy σ σ2 := ⟨fun o h1 h2 => (b.1 o h1 h2).trans (a.1 o h1 h2), fun j h => (b.2 j h).trans (a.2 j h)⟩
theorem jx_fy_x {σ0 σ : jw_H} (h : jx_fy σ0 σ) : jx_fx σ0 σ := ⟨fun c h1 _ h3 => h.1 c h1 (by omega), fun j _ => by rw [h.1 57 (by omega) (by omega)], h.2⟩
theorem jx_fy_q {σ0 σ : jw_H} (h : jx_fq σ0 σ) : jx_fy σ0 σ := ⟨fun c _ h2 => h c (by omega), fun j _ => by rw [h 13 (by omega)]⟩
theorem jx_fy_up {σ0 σ : jw_H} {o : Nat} {j v : Int} (h : jx_fy σ0 σ) (ho : o = 65 ∨ (92 ≤ o ∧ o ≤ 102) ∨ (o = 13 ∧ j = 16) ∨ (47 ≤ o ∧ o ≤ 56)) : jx_fy σ0 (jw_up σ o j v) := by
  refine ⟨fun c h1 h2 => ?_, fun j' hj => ?_⟩
  · rw [jw_up_out _ _ _ (by omega)]
    exact h.1 c h1 h2
  · rw [jw_up_ne _ (by omega)]
    exact h.2 j' hj
theorem jx_fy_fs {σ0 σ : jw_H} {o : Nat} {v : Int × Int} (h : jx_fy σ0 σ) (ho : 92 ≤ o ∧ o ≤ 102) : jx_fy σ0 (jx_fs σ o v) := jx_fy_up (jx_fy_up h (.inr (.inl ho))) (.inr (.inl ho))
/-- judged, or to be judged -/
def jx_jj (σ : jw_H) : Prop := σ 57 9 = 0 ∨ σ 57 9 = 1 ∧ jx_jd σ
theorem jm_Pb_me {σ0 σ : jw_H} (hme : jx_me σ0 σ) (hP : jm_Pb σ0) : jm_Pb σ := jm_Pb_fr (fun j _ => by rw [hme 103 (by omega)]) (hme 104 (by omega)) (hme 105 (by omega)) (hme 106 (by omega)) hP
theorem jx_lk_me {σ0 σ : jw_H} (hme : jx_me σ0 σ) (hP : jm_Pb σ0) (i j v : Int) : jx_lk σ i j v ↔ jx_lk σ0 i j v := by
  have e1 : ∀ x y, jm_E1 σ x y ↔ jm_E1 σ0 x y := fun x y => by unfold jm_E1; rw [jx_me_R hme hP]
  have e2 : ∀ x y, jm_E2 σ x y ↔ jm_E2 σ0 x y := fun x y => by unfold jm_E2; rw [jx_me_R hme hP, jx_pq_Ef (jx_me_pq hme) hP]
  unfold jx_lk
  rw [jx_me_ct hme, jx_me_ct hme, e1, e2]
theorem jx_jd_y {σ0 σ : jw_H} (h : jx_fy σ0 σ) (hP : jm_Pb σ0) (hn : σ0 103 56 ≤ 24) (hj : jx_jd σ0) : jx_jd σ := by
  have hme := jx_fx_me (jx_fy_x h)
  intro a a0 a1
  rw [hme 103 (by omega)] at a1
  obtain ⟨h1, h2, h3⟩ := hj a a0 a1
  rw [jx_me_ct hme, h.1 91 (by omega) (by omega), h.1 64 (by omega) (by omega), hme 139 (by omega)]
  refine ⟨jx_rs_pq (jx_pq_sy (jx_me_pq hme)) (jm_Pb_me hme hP) h1, h2, fun c c0 c1 => ?_⟩
  rw [hme 103 (by omega)] at c1
  rw [jx_lk_me hme hP, h.1 (67 + a.toNat) (by omega) (by omega)]
  exact h3 c c0 c1
theorem jx_jj_y {σ0 σ : jw_H} (h : jx_fy σ0 σ) (hP : jm_Pb σ0) (hn : σ0 103 56 ≤ 24) (hj : jx_jj σ0) : jx_jj σ := by
  unfold jx_jj
  rw [h.1 57 (by omega) (by omega)]
  exact hj.imp id (fun hh => ⟨hh.1, jx_jd_y h hP hn hh.2⟩)
/-- in which a query is asked -/
def jx_K (n o : Nat) (C : List (ge_R × Int)) (σ : jw_H) : Prop := jx_I0 n σ o C ∧ jm_KN σ C ∧ jx_jj σ
theorem jx_I0_fx {n : Nat} {σ0 σ : jw_H} {o : Nat} {C : List (ge_R × Int)} (h : jx_fx σ0 σ) (hI : jx_I0 n σ0 o C) : jx_I0 n σ o C := by
  have hme := jx_fx_me h
  obtain ⟨⟨h1, h2, h3, h4⟩, ⟨h5, h6, h7, h8⟩, h9⟩ := hI
  have ho := h2.1
  have fo : ∀ c, o ≤ c → c ≤ o + 5 → σ c = σ0 c := fun c a b => h.1 c (by omega) (by omega) (by omega)
  refine ⟨⟨?_, h2, jx_Pb_fr fo h3, jx_pq_tr (jx_M_fr fo) (jx_pq_tr h4 (jx_pq_sy (jx_me_pq hme)))⟩, ⟨?_, ?_, ?_, fun i i0 i1 => ?_⟩, jm_kw_me hme h9⟩
  · rw [h.2.2 2 (by omega)]
    exact h1
  · rw [h.2.1 6 (by omega)]
    exact h5
  · rw [h.2.1 0 (by omega), hme 103 (by omega)]
    exact h6
  · rw [h.1 58 (by omega) (by omega) (by omega), hme 103 (by omega)]
    exact h7
  · rw [hme 103 (by omega)] at i1
    have := h8 i i0 i1
    rw [jx_me_ct hme, hme 136 (by omega), h.1 63 (by omega) (by omega) (by omega)]
    refine ⟨?_, this.2⟩
    rw [← this.1]
    unfold jx_pt
    rw [h.1 (58 + 1) (by omega) (by omega) (by omega), h.1 (58 + 2) (by omega) (by omega) (by omega), h.1 (58 + 3) (by omega) (by omega) (by omega), h.1 (58 + 4) (by omega) (by omega) (by omega)]
theorem jx_K_x {n o : Nat} {C : List (ge_R × Int)} {σ0 σ : jw_H} (h : jx_fx σ0 σ) (hj : jx_jj σ) (hK : jx_K n o C σ0) : jx_K n o C σ := ⟨jx_I0_fx h hK.1, jm_KN_me (jx_fx_me h) hK.2.1, hj⟩
theorem jx_K_y {n o : Nat} {C : List (ge_R × Int)} {σ0 σ : jw_H} (h : jx_fy σ0 σ) (hK : jx_K n o C σ0) : jx_K n o C σ := by
  have hx := jx_I0_x hK.1
  have hcn := hx.2.2.2.2.2.2.2.2.1.1
  exact jx_K_x (jx_fy_x h) (jx_jj_y h hx.2.2.2.2.2.2.2.1 (by omega) hK.2.2) hK
theorem jx_judgeK {n o : Nat} {C : List (ge_R × Int)} {σ : jw_H} (hK : jx_K n o C σ) : jw_T (js_S n) 7 2 [.inr (.inr 57)] σ (fun r σ' => r = none ∧ jx_fx σ σ' ∧ jx_I0 n σ' o C ∧ jm_KN σ' C ∧ σ' 57 9 = 1 ∧ jx_jd σ') := by
  refine jw_T_mono (jx_judge hK.1 hK.2.1 hK.2.2) (Nat.le_refl _) ?_
  rintro r σ' ⟨h1, h2, h3, h4⟩
  have hx := jx_fj_x h2
  exact ⟨h1, hx, jx_I0_fx hx hK.1, jm_KN_me (jx_fx_me hx) hK.2.1, h3, h4⟩
theorem jx_isPart {n : Nat} {σ : jw_H} {o : Nat} {C : List (ge_R × Int)} (hK : jx_K n o C σ) {j : Int} (hj : jw_rg j) : jw_T (js_S n) 1 164 [.inr (.inr 13), .inl j] σ (fun r σ' => (r = some (.inl 1) ∧ σ' = σ ∧ (j = 0 ∨ j = 1)) ∨ (r = some (.inl 0) ∧ σ' = σ ∧ ¬ (j = 0 ∨ j = 1))) := by
  refine jw_T_of (D := 0) (M := mm_164) rfl (Nat.le_of_ble_eq_true rfl) (ls0 := [some (.inr (.inr 13)), some (.inl j)]) rfl ?_ (by rintro _ _ (⟨rfl, -⟩ | ⟨rfl, -⟩) <;> rfl)
  have hI := hK.1
  obtain ⟨hto, hfo, hp, hP, e0, e1, e2, hPm, hcb, c0, p0, -⟩ := jx_I0_x hI
  have ho := hp.1
  have hq := hP.1
  have hw := hP.2.1
  have hq2 := hP.2.2.1
  have hcn := hcb.1
  have rhj := hj
  unfold jw_rg at rhj
  refine jw_W_n 1 (i' := 1) (ls' := [some (.inr (.inr 13)), some (.inl j)]) (st' := [.inl j]) rfl ?_
  refine jw_W_if rfl (by unfold jw_rg; omega) (fun hc1 => ?_) (fun hc1 => ?_)
  · have hc1 : j = 0 := hc1
    refine jw_W_n 2 (i' := 8) (ls' := [some (.inr (.inr 13)), some (.inl j)]) (st' := [.inl 1]) rfl ?_
    refine jw_W_ir rfl ?_
    exact .inl ⟨rfl, rfl, by omega⟩
  · have hc1 : ¬ (j = 0) := hc1
    refine jw_W_n 2 (i' := 4) (ls' := [some (.inr (.inr 13)), some (.inl j)]) (st' := [.inl 1, .inl j]) rfl ?_
    refine jw_W_ic rfl (by unfold jw_rg; omega) (by unfold jw_rg; omega) (fun hc2 => ?_) (fun hc2 => ?_)
    · have hc2 : j ≠ 1 := hc2
      refine jw_W_n 1 (i' := 8) (ls' := [some (.inr (.inr 13)), some (.inl j)]) (st' := [.inl 0]) rfl ?_
      refine jw_W_ir rfl ?_
      exact .inr ⟨rfl, rfl, by omega⟩
    · have hc2 : j = 1 := Classical.not_not.mp hc2
      refine jw_W_n 2 (i' := 8) (ls' := [some (.inr (.inr 13)), some (.inl j)]) (st' := [.inl 1]) rfl ?_
      refine jw_W_ir rfl ?_
      exact .inl ⟨rfl, rfl, by omega⟩
theorem jx_isPartOfPlan {n : Nat} {σ : jw_H} {o : Nat} {C : List (ge_R × Int)} (hK : jx_K n o C σ) {j : Int} (hj : jw_rg j) : jw_T (js_S n) 1 165 [.inr (.inr 13), .inl j] σ (fun r σ' => (r = some (.inl 1) ∧ σ' = σ ∧ (0 ≤ j ∧ j < 2 * σ 103 3)) ∨ (r = some (.inl 0) ∧ σ' = σ ∧ ¬ (0 ≤ j ∧ j < 2 * σ 103 3))) := by
  refine jw_T_of (D := 0) (M := mm_165) rfl (Nat.le_of_ble_eq_true rfl) (ls0 := [some (.inr (.inr 13)), some (.inl j)]) rfl ?_ (by rintro _ _ (⟨rfl, -⟩ | ⟨rfl, -⟩) <;> rfl)
  have hI := hK.1
  obtain ⟨hto, hfo, hp, hP, e0, e1, e2, hPm, hcb, c0, p0, -⟩ := jx_I0_x hI
  have ho := hp.1
  have hq := hP.1
  have hw := hP.2.1
  have hq2 := hP.2.2.1
  have hcn := hcb.1
  have rhj := hj
  unfold jw_rg at rhj
  refine jw_W_n 1 (i' := 1) (ls' := [some (.inr (.inr 13)), some (.inl j)]) (st' := [.inl j]) rfl ?_
  refine jw_W_if rfl (by unfold jw_rg; omega) (fun hc1 => ?_) (fun hc1 => ?_)
  · have hc1 : j < 0 := hc1
    refine jw_W_n 1 (i' := 12) (ls' := [some (.inr (.inr 13)), some (.inl j)]) (st' := [.inl 0]) rfl ?_
    refine jw_W_ir rfl ?_
    exact .inr ⟨rfl, rfl, by omega⟩
  · have hc1 : ¬ (j < 0) := hc1
    refine jw_W_n 3 (i' := 5) (ls' := [some (.inr (.inr 13)), some (.inl j)]) (st' := [.inr (.inr 13), .inl 2, .inl j]) rfl ?_
    refine jw_W_gf rfl rfl rfl ?_
    show jw_W (js_S n) _ md_165 6 [some (.inr (.inr 13)), some (.inl j)] [.inr (.inr ((σ 13 2).toNat)), .inl 2, .inl j] σ _
    rw [hto]
    refine jw_W_gf rfl hp.2.1 rfl ?_
    show jw_W (js_S n) _ md_165 7 [some (.inr (.inr 13)), some (.inl j)] [.inl (σ o 0), .inl 2, .inl j] σ _
    refine jw_W_n 1 (i' := 8) (ls' := [some (.inr (.inr 13)), some (.inl j)]) (st' := [.inl (2 * (σ o 0)), .inl j]) rfl ?_
    refine jw_W_ic rfl (by unfold jw_rg; omega) (by unfold jw_rg; omega) (fun hc2 => ?_) (fun hc2 => ?_)
    · have hc2 : j ≥ (2 * (σ o 0)) := hc2
      refine jw_W_n 1 (i' := 12) (ls' := [some (.inr (.inr 13)), some (.inl j)]) (st' := [.inl 0]) rfl ?_
      refine jw_W_ir rfl ?_
      exact .inr ⟨rfl, rfl, by omega⟩
    · have hc2 : ¬ (j ≥ (2 * (σ o 0))) := hc2
      refine jw_W_n 2 (i' := 12) (ls' := [some (.inr (.inr 13)), some (.inl j)]) (st' := [.inl 1]) rfl ?_
      refine jw_W_ir rfl ?_
      exact .inl ⟨rfl, rfl, by omega⟩
theorem jx_isCorner {n : Nat} {σ : jw_H} {o : Nat} {C : List (ge_R × Int)} (hK : jx_K n o C σ) {i : Int} (hi : jw_rg i) : jw_T (js_S n) 1 166 [.inr (.inr 13), .inl i] σ (fun r σ' => (r = some (.inl 1) ∧ σ' = σ ∧ (0 ≤ i ∧ i < σ 103 56)) ∨ (r = some (.inl 0) ∧ σ' = σ ∧ ¬ (0 ≤ i ∧ i < σ 103 56))) := by
  refine jw_T_of (D := 0) (M := mm_166) rfl (Nat.le_of_ble_eq_true rfl) (ls0 := [some (.inr (.inr 13)), some (.inl i)]) rfl ?_ (by rintro _ _ (⟨rfl, -⟩ | ⟨rfl, -⟩) <;> rfl)
  have hI := hK.1
  obtain ⟨hto, hfo, hp, hP, e0, e1, e2, hPm, hcb, c0, p0, -⟩ := jx_I0_x hI
  have ho := hp.1
  have hq := hP.1
  have hw := hP.2.1
  have hq2 := hP.2.2.1
  have hcn := hcb.1
  have rhi := hi
  unfold jw_rg at rhi
  refine jw_W_n 1 (i' := 1) (ls' := [some (.inr (.inr 13)), some (.inl i)]) (st' := [.inl i]) rfl ?_
  refine jw_W_if rfl (by unfold jw_rg; omega) (fun hc1 => ?_) (fun hc1 => ?_)
  · have hc1 : i < 0 := hc1
    refine jw_W_n 1 (i' := 10) (ls' := [some (.inr (.inr 13)), some (.inl i)]) (st' := [.inl 0]) rfl ?_
    refine jw_W_ir rfl ?_
    exact .inr ⟨rfl, rfl, by omega⟩
  · have hc1 : ¬ (i < 0) := hc1
    refine jw_W_n 2 (i' := 4) (ls' := [some (.inr (.inr 13)), some (.inl i)]) (st' := [.inr (.inr 13), .inl i]) rfl ?_
    refine jw_W_gf rfl rfl rfl ?_
    show jw_W (js_S n) _ md_166 5 [some (.inr (.inr 13)), some (.inl i)] [.inr (.inr 57), .inl i] σ _
    refine jw_W_gf rfl rfl rfl ?_
    show jw_W (js_S n) _ md_166 6 [some (.inr (.inr 13)), some (.inl i)] [.inl (σ 57 0), .inl i] σ _
    refine jw_W_ic rfl (by unfold jw_rg; omega) (by unfold jw_rg; omega) (fun hc2 => ?_) (fun hc2 => ?_)
    · have hc2 : i ≥ (σ 57 0) := hc2
      refine jw_W_n 1 (i' := 10) (ls' := [some (.inr (.inr 13)), some (.inl i)]) (st' := [.inl 0]) rfl ?_
      refine jw_W_ir rfl ?_
      exact .inr ⟨rfl, rfl, by omega⟩
    · have hc2 : ¬ (i ≥ (σ 57 0)) := hc2
      refine jw_W_n 2 (i' := 10) (ls' := [some (.inr (.inr 13)), some (.inl i)]) (st' := [.inl 1]) rfl ?_
      refine jw_W_ir rfl ?_
      exact .inl ⟨rfl, rfl, by omega⟩
theorem jx_isWish {n : Nat} {σ : jw_H} {o : Nat} {C : List (ge_R × Int)} (hK : jx_K n o C σ) {w : Int} (hi : jw_rg w) : jw_T (js_S n) 1 167 [.inr (.inr 13), .inl w] σ (fun r σ' => (r = some (.inl 1) ∧ σ' = σ ∧ (0 ≤ w ∧ w < σ 103 4)) ∨ (r = some (.inl 0) ∧ σ' = σ ∧ ¬ (0 ≤ w ∧ w < σ 103 4))) := by
  refine jw_T_of (D := 0) (M := mm_167) rfl (Nat.le_of_ble_eq_true rfl) (ls0 := [some (.inr (.inr 13)), some (.inl w)]) rfl ?_ (by rintro _ _ (⟨rfl, -⟩ | ⟨rfl, -⟩) <;> rfl)
  have hI := hK.1
  obtain ⟨hto, hfo, hp, hP, e0, e1, e2, hPm, hcb, c0, p0, -⟩ := jx_I0_x hI
  have ho := hp.1
  have hq := hP.1
  have hw := hP.2.1
  have hq2 := hP.2.2.1
  have hcn := hcb.1
  have rhi := hi
  unfold jw_rg at rhi
  refine jw_W_n 1 (i' := 1) (ls' := [some (.inr (.inr 13)), some (.inl w)]) (st' := [.inl w]) rfl ?_
  refine jw_W_if rfl (by unfold jw_rg; omega) (fun hc1 => ?_) (fun hc1 => ?_)
  · have hc1 : w < 0 := hc1
    refine jw_W_n 1 (i' := 10) (ls' := [some (.inr (.inr 13)), some (.inl w)]) (st' := [.inl 0]) rfl ?_
    refine jw_W_ir rfl ?_
    exact .inr ⟨rfl, rfl, by omega⟩
  · have hc1 : ¬ (w < 0) := hc1
    refine jw_W_n 2 (i' := 4) (ls' := [some (.inr (.inr 13)), some (.inl w)]) (st' := [.inr (.inr 13), .inl w]) rfl ?_
    refine jw_W_gf rfl rfl rfl ?_
    show jw_W (js_S n) _ md_167 5 [some (.inr (.inr 13)), some (.inl w)] [.inr (.inr ((σ 13 2).toNat)), .inl w] σ _
    rw [hto]
    refine jw_W_gf rfl hp.2.1 rfl ?_
    show jw_W (js_S n) _ md_167 6 [some (.inr (.inr 13)), some (.inl w)] [.inl (σ o 1), .inl w] σ _
    refine jw_W_ic rfl (by unfold jw_rg; omega) (by unfold jw_rg; omega) (fun hc2 => ?_) (fun hc2 => ?_)
    · have hc2 : w ≥ (σ o 1) := hc2
      refine jw_W_n 1 (i' := 10) (ls' := [some (.inr (.inr 13)), some (.inl w)]) (st' := [.inl 0]) rfl ?_
      refine jw_W_ir rfl ?_
      exact .inr ⟨rfl, rfl, by omega⟩
    · have hc2 : ¬ (w ≥ (σ o 1)) := hc2
      refine jw_W_n 2 (i' := 10) (ls' := [some (.inr (.inr 13)), some (.inl w)]) (st' := [.inl 1]) rfl ?_
      refine jw_W_ir rfl ?_
      exact .inl ⟨rfl, rfl, by omega⟩
theorem jx_isPlane {n : Nat} {σ : jw_H} {o : Nat} {C : List (ge_R × Int)} (hK : jx_K n o C σ) {k : Int} (hi : jw_rg k) : jw_T (js_S n) 2 168 [.inr (.inr 13), .inl k] σ (fun r σ' => (r = some (.inl 1) ∧ σ' = σ ∧ (0 ≤ k ∧ k < σ 103 5 + 2 * σ 103 3)) ∨ (r = some (.inl 0) ∧ σ' = σ ∧ ¬ (0 ≤ k ∧ k < σ 103 5 + 2 * σ 103 3))) := by
  refine jw_T_of (D := 1) (M := mm_168) rfl (Nat.le_of_ble_eq_true rfl) (ls0 := [some (.inr (.inr 13)), some (.inl k)]) rfl ?_ (by rintro _ _ (⟨rfl, -⟩ | ⟨rfl, -⟩) <;> rfl)
  have hI := hK.1
  obtain ⟨hto, hfo, hp, hP, e0, e1, e2, hPm, hcb, c0, p0, -⟩ := jx_I0_x hI
  have ho := hp.1
  have hq := hP.1
  have hw := hP.2.1
  have hq2 := hP.2.2.1
  have hcn := hcb.1
  have rhi := hi
  unfold jw_rg at rhi
  refine jw_W_n 1 (i' := 1) (ls' := [some (.inr (.inr 13)), some (.inl k)]) (st' := [.inl k]) rfl ?_
  refine jw_W_if rfl (by unfold jw_rg; omega) (fun hc1 => ?_) (fun hc1 => ?_)
  · have hc1 : k < 0 := hc1
    refine jw_W_n 1 (i' := 10) (ls' := [some (.inr (.inr 13)), some (.inl k)]) (st' := [.inl 0]) rfl ?_
    refine jw_W_ir rfl ?_
    exact .inr ⟨rfl, rfl, by omega⟩
  · have hc1 : ¬ (k < 0) := hc1
    refine jw_W_n 2 (i' := 4) (ls' := [some (.inr (.inr 13)), some (.inl k)]) (st' := [.inr (.inr 13), .inl k]) rfl ?_
    refine jw_W_gf rfl rfl rfl ?_
    show jw_W (js_S n) _ md_168 5 [some (.inr (.inr 13)), some (.inl k)] [.inr (.inr ((σ 13 2).toNat)), .inl k] σ _
    rw [hto]
    refine jw_W_call (as := [.inr (.inr o)]) (rest := [.inl k]) rfl rfl rfl rfl (Nat.le_of_ble_eq_true rfl) (.inr (jx_rc hp.2.1)) (jx_planes hp) (by omega) ?_ rfl
    rintro r1 σz ⟨rfl, hs⟩
    rw [hs]
    show jw_W (js_S n) _ md_168 6 [some (.inr (.inr 13)), some (.inl k)] [.inl (σ o 2 + 2 * σ o 0), .inl k] σ _
    refine jw_W_ic rfl (by unfold jw_rg; omega) (by unfold jw_rg; omega) (fun hc2 => ?_) (fun hc2 => ?_)
    · have hc2 : k ≥ (σ o 2 + 2 * σ o 0) := hc2
      refine jw_W_n 1 (i' := 10) (ls' := [some (.inr (.inr 13)), some (.inl k)]) (st' := [.inl 0]) rfl ?_
      refine jw_W_ir rfl ?_
      exact .inr ⟨rfl, rfl, by omega⟩
    · have hc2 : ¬ (k ≥ (σ o 2 + 2 * σ o 0)) := hc2
      refine jw_W_n 2 (i' := 10) (ls' := [some (.inr (.inr 13)), some (.inl k)]) (st' := [.inl 1]) rfl ?_
      refine jw_W_ir rfl ?_
      exact .inl ⟨rfl, rfl, by omega⟩

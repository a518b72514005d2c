/-! ===== the law's loop: what holds ahead of each call ===== -/
/-- the tape, both sides -/
def jv_t (σ : jw_H) (b : Int → Int) (t : Int) : Prop := jn_tc σ b t ∧ jn_tm σ b t ∧ (0 ≤ t ∧ t ≤ 260) ∧ ∀ j, 0 ≤ j → j < t → 0 ≤ b j ∧ b j ≤ 255
/-- the law, both sides -/
def jv_l (σ : jw_H) (b : Int → Int) : Prop := jq_lw b σ ∧ jl_mc σ (jq_L b (σ 42 5)) ∧ σ 42 0 = σ 103 16
/-- what is kept, both sides -/
def jv_k (σ : jw_H) : Prop := σ 13 5 = σ 103 75 ∧ (σ 13 5 = 0 ∨ (σ 13 5 = 1 ∧ jx_Pb σ 27 ∧ jm_Pb (jn_kM σ) ∧ jx_pq (jx_M σ 27) (jn_kM σ)))
def jv_J (n : Nat) (s : Int → Int) (o : Nat) (C : List (ge_R × Int)) (σ : jw_H) : Prop := jx_K n o C σ ∧ ((o = 15 ∧ σ 13 3 = 21) ∨ (o = 21 ∧ σ 13 3 = 15)) ∧ (∃ b t, jv_t σ b t) ∧ (∃ b, jv_l σ b) ∧ jk_st σ ∧ jv_k σ ∧ σ 0 = s
/-- what holds ahead of each call -/
def jv_I (n : Nat) (s : Int → Int) (σ : jw_H) : Prop := ∃ o C, jv_J n s o C σ
/-- of a reference's kept row alone -/
def jv_kM (r : Int → Int) : jw_H := fun c j => if c = 103 then (if j = 3 then r 0 else if j = 4 then r 1 else if j = 5 then r 2 else 0) else if c = 104 then r (3 + j) else if c = 105 then r (12 + j) else if c = 106 then r (32 + j) else 0
theorem jv_kM_P (σ : jw_H) : jm_Pb (jn_kM σ) ↔ jm_Pb (jv_kM (σ 144)) := Iff.rfl
theorem jv_kM_q (μ σ : jw_H) : jx_pq μ (jn_kM σ) ↔ jx_pq μ (jv_kM (σ 144)) := Iff.rfl
def jv_kf (σ σ' : jw_H) : Prop := (∀ c, (27 ≤ c ∧ c ≤ 32) ∨ c = 144 → σ' c = σ c) ∧ σ' 13 5 = σ 13 5 ∧ σ' 103 75 = σ 103 75
theorem jv_k_fr {σ σ' : jw_H} (h : jv_k σ) (hf : jv_kf σ σ') : jv_k σ' := by
  obtain ⟨h1, h2⟩ := h
  obtain ⟨f1, f2, f3⟩ := hf
  unfold jv_k
  rw [f2, f3]
  refine ⟨h1, h2.imp id (fun w => ⟨w.1, jx_Pb_fr (fun c c1 c2 => f1 c (by omega)) w.2.1, ?_, ?_⟩)⟩
  · rw [jv_kM_P, f1 144 (by omega)]
    exact (jv_kM_P σ).mp w.2.2.1
  · rw [jv_kM_q, f1 144 (by omega)]
    exact jx_pq_tr (jx_M_fr (fun c c1 c2 => f1 c (by omega))) ((jv_kM_q _ σ).mp w.2.2.2)
def jv_tf (σ σ' : jw_H) : Prop := σ' 14 = σ 14 ∧ σ' 107 = σ 107 ∧ σ' 13 1 = σ 13 1 ∧ σ' 103 7 = σ 103 7
theorem jv_t_fr {σ σ' : jw_H} {b : Int → Int} {t : Int} (h : jv_t σ b t) (hf : jv_tf σ σ') : jv_t σ' b t := by
  obtain ⟨f1, f2, f3, f4⟩ := hf
  unfold jv_t jn_tc jn_tm at h ⊢
  rw [f1, f2, f3, f4]
  exact h
def jv_lf (σ σ' : jw_H) : Prop := (∀ c, c = 1 ∨ c = 2 ∨ c = 42 ∨ c = 45 ∨ c = 46 ∨ (114 ≤ c ∧ c ≤ 118) → σ' c = σ c) ∧ σ' 103 16 = σ 103 16
theorem jv_l_fr {σ σ' : jw_H} {b : Int → Int} (h : jv_l σ b) (hf : jv_lf σ σ') : jv_l σ' b := by
  obtain ⟨⟨⟨h1, h2, h3, h4⟩, h5, h6, h7⟩, h8, h9⟩ := h
  obtain ⟨f1, f2⟩ := hf
  unfold jv_l jq_lw jl_cv
  rw [f1 42 (by omega), f1 45 (by omega), f1 46 (by omega), f2]
  refine ⟨⟨⟨h1, h2, jq_st_fr (f1 1 (by omega)) (f1 2 (by omega)) h3, h4⟩, h5, h6, h7⟩, ?_, h9⟩
  unfold jl_mc at h8 ⊢
  rw [f2, f1 115 (by omega), f1 116 (by omega), f1 117 (by omega), f1 118 (by omega)]
  refine ⟨h8.1, h8.2.1, fun t q hq => ?_⟩
  obtain ⟨k1, k2, k3, k4, k5, k6, k7, k8, k9⟩ := h8.2.2 t q hq
  exact ⟨k1, k2, k3, k4, k5, k6, jl_cs_fr k7 (f1 114 (by omega)), jl_cs_fr k8 (f1 114 (by omega)), k9⟩
theorem jv_sw_fr {σ σ' : jw_H} {z L : Nat} {w : Int → Int} (h1 : σ' z = σ z) (h2 : σ' (z + 1) = σ (z + 1)) (k : jk_sw σ z L w) : jk_sw σ' z L w := by
  unfold jk_sw at k ⊢
  rw [h1, h2]
  exact k
theorem jv_st_fr {σ σ' : jw_H} (h : ∀ c, c ≤ 12 → σ' c = σ c) (k : jk_st σ) : jk_st σ' := by
  obtain ⟨k1, k2, k3, k4, k5⟩ := k
  exact ⟨jv_sw_fr (h 3 (by omega)) (h 4 (by omega)) k1, jv_sw_fr (h 5 (by omega)) (h 6 (by omega)) k2, jv_sw_fr (h 7 (by omega)) (h 8 (by omega)) k3, jv_sw_fr (h 9 (by omega)) (h 10 (by omega)) k4, jv_sw_fr (h 11 (by omega)) (h 12 (by omega)) k5⟩
theorem jv_J_fr {n : Nat} {s : Int → Int} {o : Nat} {C : List (ge_R × Int)} {σ σ' : jw_H} (h : jv_J n s o C σ) (hK : jx_K n o C σ') (h3 : σ' 13 3 = σ 13 3) (h0 : ∀ c, c ≤ 12 → σ' c = σ c) (hk : jv_kf σ σ') (ht : jv_tf σ σ') (hl : jv_lf σ σ') : jv_J n s o C σ' := by
  obtain ⟨a1, a2, ⟨b, t, a3⟩, ⟨bl, a4⟩, a5, a6, a7⟩ := h
  exact ⟨hK, by rw [h3]; exact a2, ⟨b, t, jv_t_fr a3 ht⟩, ⟨bl, jv_l_fr a4 hl⟩, jv_st_fr h0 a5, jv_k_fr a6 hk, by rw [h0 0 (by omega)]; exact a7⟩
theorem jv_J_x {n : Nat} {s : Int → Int} {o : Nat} {C : List (ge_R × Int)} {σ σ' : jw_H} (h : jv_J n s o C σ) (hf : jx_fx σ σ') (hj : jx_jj σ') : jv_J n s o C σ' := by
  have f1 : ∀ c, c ≠ 13 → c ≠ 57 → (c < 47 ∨ 102 < c) → σ' c = σ c := fun c d1 d2 d3 => hf.1 c d1 d2 (by omega)
  have e103 := f1 103 (by omega) (by omega) (by omega)
  exact jv_J_fr h (jx_K_x hf hj h.1) (hf.2.2 3 (by omega)) (fun c hc => f1 c (by omega) (by omega) (by omega)) ⟨fun c hc => f1 c (by omega) (by omega) (by omega), hf.2.2 5 (by omega), by rw [e103]⟩ ⟨f1 14 (by omega) (by omega) (by omega), f1 107 (by omega) (by omega) (by omega), hf.2.2 1 (by omega), by rw [e103]⟩ ⟨fun c hc => f1 c (by omega) (by omega) (by omega), by rw [e103]⟩
theorem jv_J_y {n : Nat} {s : Int → Int} {o : Nat} {C : List (ge_R × Int)} {σ σ' : jw_H} (h : jv_J n s o C σ) (hf : jx_fy σ σ') : jv_J n s o C σ' := jv_J_x h (jx_fy_x hf) (jx_K_y hf h.1).2.2
/-- what of the reference a told problem hangs on -/
def jv_km (σ σ' : jw_H) : Prop := (∀ c, (c = 104 ∨ c = 105 ∨ c = 106 ∨ (132 ≤ c ∧ c ≤ 139)) → σ' c = σ c) ∧ (∀ j, (j = 3 ∨ j = 4 ∨ j = 5 ∨ (56 ≤ j ∧ j ≤ 59)) → σ' 103 j = σ 103 j) ∧ jm_Ns σ'
def jv_kc (o : Nat) (σ σ' : jw_H) : Prop := σ' 13 2 = σ 13 2 ∧ ∀ c, ((o ≤ c ∧ c ≤ o + 5) ∨ (57 ≤ c ∧ c ≤ 64) ∨ (67 ≤ c ∧ c ≤ 91)) → σ' c = σ c
theorem jv_km_pq {σ σ' : jw_H} (h : jv_km σ σ') : jx_pq σ' σ := by
  refine ⟨⟨h.2.1 3 (by omega), h.2.1 4 (by omega), h.2.1 5 (by omega)⟩, fun j _ _ => ?_, fun j _ _ => ?_, fun j _ _ => ?_⟩
  · rw [h.1 104 (by omega)]
  · rw [h.1 105 (by omega)]
  · rw [h.1 106 (by omega)]
theorem jv_km_ct {σ σ' : jw_H} (h : jv_km σ σ') (i : Int) : jm_ct σ' i = jm_ct σ i := by
  unfold jm_ct
  rw [h.1 132 (by omega), h.1 133 (by omega), h.1 134 (by omega), h.1 135 (by omega)]
theorem jv_KN_km {σ0 σ : jw_H} {C : List (ge_R × Int)} (h : jv_km σ0 σ) (hk : jm_KN σ0 C) : jm_KN σ C := by
  have hP := hk.1.1
  have pq := jv_km_pq h
  have ef := fun p => jx_pq_Ef pq hP p
  have eR := jx_pq_R pq (by have := hP.1; omega) (by have := hP.2.2.1; omega)
  have eB := jx_pq_bA (jv_km_pq h) (by have := hP.1; omega) (by have := hP.2.2.1; omega)
  have lv := jm_lv_w (jx_pq_F pq) (jv_km_ct h) (h.2.1 56 (by omega))
  have e3 : σ 103 3 = σ0 103 3 := h.2.1 3 (by omega)
  have e4 : σ 103 4 = σ0 103 4 := h.2.1 4 (by omega)
  have eW : ∀ w, jm_W σ w = jm_W σ0 w := fun w => by
    unfold jm_W
    rw [h.1 104 (by omega)]
  obtain ⟨h0, ⟨m1, m2⟩, g1, g2, l1, l2, t, t1, t2, t3, t4⟩ := hk
  obtain ⟨k1, k2, k3, k4, k5, k6⟩ := h0
  refine ⟨⟨jm_Pb_fr (fun j hj => h.2.1 j (by omega)) (h.1 104 (by omega)) (h.1 105 (by omega)) (h.1 106 (by omega)) k1, ⟨⟨?_, fun i x hx => ?_⟩, ?_, k2.2.2⟩, ?_, ?_, h.2.2, trivial⟩, ⟨?_, ?_⟩, ?_, ?_, ?_, ?_, t, by rw [h.2.1 59 (by omega)]; exact t1, fun s hs => ?_, fun a ha => t3 a ((lv t a).mp ha), fun a a0 a1 => ?_⟩
  · rw [h.2.1 56 (by omega)]
    exact k2.1.1
  · rw [jv_km_ct h, h.1 136 (by omega)]
    exact k2.1.2 i x hx
  · rw [e3, eB]
    exact k2.2.1
  · rw [e3, eB]
    exact k3
  · rw [eB]
    exact k4
  · unfold jm_mk
    rw [h.1 137 (by omega)]
    exact m1
  · unfold jm_mk
    rw [h.1 138 (by omega)]
    exact m2
  · exact jm_gd_iff (h.2.1 57 (by omega)) (fun p => not_congr (ef p).symm) g1
  · refine jm_gd_iff (h.2.1 58 (by omega)) (fun p => ?_) g2
    unfold jm_Wk
    rw [e4]
    refine or_congr Iff.rfl ⟨?_, ?_⟩
    · rintro ⟨k, a, b, c⟩
      exact ⟨k, a, b, fun hh => c (by rw [← eW]; exact (jx_pq_up1 pq hP p _).mp hh)⟩
    · rintro ⟨k, a, b, c⟩
      exact ⟨k, a, b, fun hh => c (by rw [← eW] at hh; exact (jx_pq_up1 pq hP p _).mpr hh)⟩
  · exact jm_el_iff (h.1 137 (by omega)) (fun p q => by unfold jm_E1; rw [eR]) l1
  · exact jm_el_iff (h.1 138 (by omega)) (fun p q => by unfold jm_E2; rw [eR, ef]) l2
  · obtain ⟨a, ha⟩ := t2 s hs
    exact ⟨a, (lv s a).mpr ha⟩
  · rw [h.2.1 56 (by omega)] at a1
    obtain ⟨s, h1, h2, h3, h4⟩ := t4 a a0 a1
    exact ⟨s, h1, by rw [h.1 139 (by omega)]; exact h2, (lv s a).mpr h3, fun hh => h4 ((lv (s + 1) a).mp hh)⟩
theorem jv_K_kc {n o : Nat} {C : List (ge_R × Int)} {σ σ' : jw_H} (hc : jv_kc o σ σ') (h : jv_km σ σ') (hK : jx_K n o C σ) : jx_K n o C σ' := by
  have hKN := jv_KN_km h hK.2.1
  have hP := hK.2.1.1.1
  have hPm : jm_Pb σ' := hKN.1.1
  have pq := jv_km_pq h
  have ef := fun p => jx_pq_Ef pq hP p
  have eR := jx_pq_R pq (by have := hP.1; omega) (by have := hP.2.2.1; omega)
  have hcn := (jx_I0_x hK.1).2.2.2.2.2.2.2.2.1.1
  obtain ⟨⟨⟨h1, h2, h3, h4⟩, ⟨h5, h6, h7, h8⟩, h9⟩, -, hj⟩ := hK
  have ho := h2.1
  have fo : ∀ c, o ≤ c → c ≤ o + 5 → σ' c = σ c := fun c a b => hc.2 c (by omega)
  have e56 : σ' 103 56 = σ 103 56 := h.2.1 56 (by omega)
  refine ⟨⟨⟨?_, h2, jx_Pb_fr fo h3, jx_pq_tr (jx_M_fr fo) (jx_pq_tr h4 (jx_pq_sy pq))⟩, ⟨?_, ?_, ?_, fun i i0 i1 => ?_⟩, hKN.1⟩, hKN, ?_⟩
  · rw [hc.1]
    exact h1
  · rw [hc.2 57 (by omega)]
    exact h5
  · rw [hc.2 57 (by omega), e56]
    exact h6
  · rw [hc.2 58 (by omega), e56]
    exact h7
  · rw [e56] at i1
    have := h8 i i0 i1
    rw [jv_km_ct h, h.1 136 (by omega), hc.2 63 (by omega)]
    refine ⟨?_, this.2⟩
    rw [← this.1]
    unfold jx_pt
    rw [hc.2 (58 + 1) (by omega), hc.2 (58 + 2) (by omega), hc.2 (58 + 3) (by omega), hc.2 (58 + 4) (by omega)]
  · unfold jx_jj
    rw [hc.2 57 (by omega)]
    refine hj.imp id (fun hh => ⟨hh.1, ?_⟩)
    intro a a0 a1
    rw [e56] at a1
    obtain ⟨g1, g2, g3⟩ := hh.2 a a0 a1
    rw [jv_km_ct h, hc.2 91 (by omega), hc.2 64 (by omega), h.1 139 (by omega)]
    refine ⟨jx_rs_pq (jx_pq_sy pq) hPm g1, g2, fun c c0 c1 => ?_⟩
    rw [e56] at c1
    have e1 : ∀ x y, jm_E1 σ' x y ↔ jm_E1 σ x y := fun x y => by unfold jm_E1; rw [eR]
    have e2 : ∀ x y, jm_E2 σ' x y ↔ jm_E2 σ x y := fun x y => by unfold jm_E2; rw [eR, ef]
    have g := g3 c c0 c1
    unfold jx_lk at g ⊢
    rw [jv_km_ct h, jv_km_ct h, e1, e2, hc.2 (67 + a.toNat) (by omega)]
    exact g
theorem jv_K_fz {n o : Nat} {C : List (ge_R × Int)} {σ σ' : jw_H} (h : jm_fz σ σ') (hK : jx_K n o C σ) : jx_K n o C σ' := by
  have ho := (jx_I0_x hK.1).2.2.1.1
  exact jv_K_kc ⟨by rw [h.1 13 (by omega) (by omega)], fun c hc => h.1 c (by omega) (by omega)⟩ ⟨fun c hc => h.1 c (by omega) (by omega), fun j hj => h.2.1 j (by omega), h.2.2⟩ hK
theorem jv_J_z {n : Nat} {s : Int → Int} {o : Nat} {C : List (ge_R × Int)} {σ σ' : jw_H} (h : jv_J n s o C σ) (hf : jm_fz σ σ') : jv_J n s o C σ' := by
  have f1 : ∀ c, c < 103 ∨ (103 < c ∧ c < 119) ∨ 143 < c → σ' c = σ c := fun c hc => hf.1 c (by omega) (by omega)
  exact jv_J_fr h (jv_K_fz hf h.1) (by rw [f1 13 (by omega)]) (fun c hc => f1 c (by omega)) ⟨fun c hc => f1 c (by omega), by rw [f1 13 (by omega)], hf.2.1 75 (by omega)⟩ ⟨f1 14 (by omega), f1 107 (by omega), by rw [f1 13 (by omega)], hf.2.1 7 (by omega)⟩ ⟨fun c hc => f1 c (by omega), hf.2.1 16 (by omega)⟩
theorem jv_J_I {n : Nat} {s : Int → Int} {o : Nat} {C : List (ge_R × Int)} {σ : jw_H} (h : jv_J n s o C σ) : jv_I n s σ := ⟨o, C, h⟩
/-- both sides of a call: one answer, and all holds again -/
def jv_op (n : Nat) (s : Int → Int) (D kc km : Nat) (as : List jw_V) (mk : Int → jw_V) (σ : jw_H) : Prop := jw_T (js_S n) D kc (.inr (.inr 13) :: as) σ (fun r σ1 => ∃ v, r = some (mk v) ∧ σ1 0 = s ∧ jw_T (js_S n) 12 km (.inr (.inr 103) :: as) σ1 (fun r2 σ2 => r2 = some (mk v) ∧ jv_I n s σ2))
abbrev jv_i (v : Int) : jw_V := .inl v
abbrev jv_g (v : Int) : jw_V := .inr (.inl v)
theorem jv_cbd {n o : Nat} {C : List (ge_R × Int)} {σ : jw_H} (h : jx_K n o C σ) : jm_cbd σ := (jx_I0_x h.1).2.2.2.2.2.2.2.2.1
theorem jv_mkl {n o : Nat} {C : List (ge_R × Int)} {σ : jw_H} (h : jx_K n o C σ) : jm_mk (σ 103 56) σ 137 ∧ jm_mk (σ 103 56) σ 138 := by
  rw [h.2.1.1.2.1.1.1]
  exact h.2.1.2.1
theorem jv_behind_0 {n : Nat} {σ : jw_H} (hW4 : σ 103 4 = 0) {m : Int} (hm : jw_rg m)  : jw_T (js_S n) 7 300 [.inr (.inr 103), .inl m] σ (fun r σ' => r = some (.inl (-1)) ∧ σ' = σ) := by
  refine jw_T_of (D := 6) (M := mm_300) rfl (Nat.le_of_ble_eq_true rfl) (ls0 := [some (.inr (.inr 103)), some (.inl m), none, none, none]) rfl ?_ (by rintro _ _ ⟨rfl, -⟩; rfl)
  have rhm := hm
  unfold jw_rg at rhm
  refine jw_W_n 1 (i' := 1) (ls' := [some (.inr (.inr 103)), some (.inl m), none, none, none]) (st' := [.inl m]) rfl ?_
  refine jw_W_if rfl (by unfold jw_rg; omega) (fun hc1 => ?_) (fun hc1 => ?_)
  · have hc1 : m < 0 := hc1
    refine jw_W_n 1 (i' := 10) (ls' := [some (.inr (.inr 103)), some (.inl m), none, none, none]) (st' := [.inl ((-1))]) rfl ?_
    refine jw_W_ir rfl ?_
    exact ⟨rfl, rfl⟩
  · have hc1 : ¬ (m < 0) := hc1
    refine jw_W_n 1 (i' := 3) (ls' := [some (.inr (.inr 103)), some (.inl m), none, none, none]) (st' := [.inr (.inr 103)]) rfl ?_
    refine jw_W_gf rfl rfl rfl ?_
    show jw_W (js_S n) _ md_300 4 [some (.inr (.inr 103)), some (.inl m), none, none, none] [.inl (σ 103 4)] σ _
    refine jw_W_if rfl (by unfold jw_rg; omega) (fun hc2 => ?_) (fun hc2 => ?_)
    · have hc2 : (σ 103 4) = 0 := hc2
      refine jw_W_n 1 (i' := 10) (ls' := [some (.inr (.inr 103)), some (.inl m), none, none, none]) (st' := [.inl ((-1))]) rfl ?_
      refine jw_W_ir rfl ?_
      exact ⟨rfl, rfl⟩
    · have hc2 : ¬ ((σ 103 4) = 0) := hc2
      exfalso; omega
theorem jv_behindR {n : Nat} {σ : jw_H} {C : List (ge_R × Int)} (hKN : jm_KN σ C) {m : Int} (hm : jw_rg m) : jw_T (js_S n) 7 300 [.inr (.inr 103), .inl m] σ (fun r σ' => ∃ v, r = some (.inl v) ∧ σ' = σ ∧ jn_bha σ m v) := by
  have hw := hKN.1.1.2.1
  rcases (show σ 103 4 = 0 ∨ σ 103 4 = 1 ∨ σ 103 4 = 2 ∨ σ 103 4 = 3 by omega) with h | h | h | h
  · refine jw_T_mono (jv_behind_0 h hm) (Nat.le_refl _) ?_
    rintro r σ' ⟨rfl, hs⟩
    refine ⟨_, rfl, hs, .inl ⟨rfl, ?_⟩⟩
    unfold jn_okW
    omega
  · refine jw_T_mono (jm_behind_1 hKN h hm) (Nat.le_refl _) ?_
    rintro r σ' ⟨v, rfl, hs, hv⟩
    refine ⟨v, rfl, hs, ?_⟩
    unfold jn_bha
    rw [h]
    exact hv
  · refine jw_T_mono (jm_behind_2 hKN h hm) (Nat.le_refl _) ?_
    rintro r σ' ⟨v, rfl, hs, hv⟩
    refine ⟨v, rfl, hs, ?_⟩
    unfold jn_bha
    rw [h]
    exact hv
  · refine jw_T_mono (jm_behind_3 hKN h hm) (Nat.le_refl _) ?_
    rintro r σ' ⟨v, rfl, hs, hv⟩
    refine ⟨v, rfl, hs, ?_⟩
    unfold jn_bha
    rw [h]
    exact hv
theorem jv_plf_me {σ0 σ : jw_H} (h : jx_me σ0 σ) (k j : Int) : jm_plf σ k j = jm_plf σ0 k j := by
  unfold jm_plf jm_pf jm_if jm_kf
  simp only [h 103 (by omega), h 104 (by omega), h 105 (by omega), h 106 (by omega)]
theorem jv_cf_me {σ0 σ : jw_H} (h : jx_me σ0 σ) (i j : Int) : jm_cf σ i j = jm_cf σ0 i j := by
  unfold jm_cf jm_cc
  simp only [h 103 (by omega), h 132 (by omega), h 133 (by omega), h 134 (by omega), h 135 (by omega)]
theorem jv_waf_me {σ0 σ : jw_H} (h : jx_me σ0 σ) (i w j : Int) : jm_waf σ i w j = jm_waf σ0 i w j := by
  unfold jm_waf jm_W
  simp only [h 103 (by omega), h 104 (by omega), h 135 (by omega), jx_me_ct h]
theorem jv_problemIs {n : Nat} {s : Int → Int} {o : Nat} {C : List (ge_R × Int)} {σ : jw_H} (hJ : jv_J n s o C σ) {a0 : Int} (r0 : jw_rg a0) : jv_op n s 31 118 229 [.inl a0] jv_i σ := by
  have hP := hJ.1.2.1.1.1
  refine jw_T_mono (jx_problemIs hJ.1 r0) (Nat.le_of_ble_eq_true rfl) ?_
  rintro r σ1 ⟨rfl, hf⟩
  have hJ1 := jv_J_y hJ hf
  have hme := jx_fx_me (jx_fy_x hf)
  refine ⟨_, rfl, hJ1.2.2.2.2.2.2, jw_T_mono (jm_problemIs hJ1.1.2.1.1.1 r0) (Nat.le_of_ble_eq_true rfl) ?_⟩
  rintro r2 σ2 ⟨rfl, hz⟩
  exact ⟨congrArg (fun z => some (jv_i z)) (by unfold jm_pif; rw [hme 103 (by omega), hme 106 (by omega)]), by rw [hz]; exact jv_J_I hJ1⟩
theorem jv_wish {n : Nat} {s : Int → Int} {o : Nat} {C : List (ge_R × Int)} {σ : jw_H} (hJ : jv_J n s o C σ) {a0 a1 : Int} (r0 : jw_rg a0) (r1 : jw_rg a1) : jv_op n s 31 119 230 [.inl a0, .inl a1] jv_i σ := by
  have hP := hJ.1.2.1.1.1
  refine jw_T_mono (jx_wish hJ.1 r0 r1) (Nat.le_of_ble_eq_true rfl) ?_
  rintro r σ1 ⟨rfl, hf⟩
  have hJ1 := jv_J_y hJ hf
  have hme := jx_fx_me (jx_fy_x hf)
  refine ⟨_, rfl, hJ1.2.2.2.2.2.2, jw_T_mono (jm_wish hJ1.1.2.1.1.1 r0 r1) (Nat.le_of_ble_eq_true rfl) ?_⟩
  rintro r2 σ2 ⟨rfl, hz⟩
  exact ⟨congrArg (fun z => some (jv_i z)) (by rw [hme 103 (by omega), hme 104 (by omega)]), by rw [hz]; exact jv_J_I hJ1⟩
theorem jv_plane {n : Nat} {s : Int → Int} {o : Nat} {C : List (ge_R × Int)} {σ : jw_H} (hJ : jv_J n s o C σ) {a0 a1 : Int} (r0 : jw_rg a0) (r1 : jw_rg a1) : jv_op n s 31 120 231 [.inl a0, .inl a1] jv_i σ := by
  have hP := hJ.1.2.1.1.1
  refine jw_T_mono (jx_plane hJ.1 r0 r1) (Nat.le_of_ble_eq_true rfl) ?_
  rintro r σ1 ⟨rfl, hf⟩
  have hJ1 := jv_J_y hJ hf
  have hme := jx_fx_me (jx_fy_x hf)
  refine ⟨_, rfl, hJ1.2.2.2.2.2.2, jw_T_mono (jm_plane hJ1.1.2.1.1.1 r0 r1) (Nat.le_of_ble_eq_true rfl) ?_⟩
  rintro r2 σ2 ⟨rfl, hz⟩
  exact ⟨congrArg (fun z => some (jv_i z)) (jv_plf_me hme a0 a1), by rw [hz]; exact jv_J_I hJ1⟩
theorem jv_corner {n : Nat} {s : Int → Int} {o : Nat} {C : List (ge_R × Int)} {σ : jw_H} (hJ : jv_J n s o C σ) {a0 a1 : Int} (r0 : jw_rg a0) (r1 : jw_rg a1) : jv_op n s 31 121 261 [.inl a0, .inl a1] jv_g σ := by
  have hP := hJ.1.2.1.1.1
  refine jw_T_mono (jx_corner hJ.1 r0 r1) (Nat.le_of_ble_eq_true rfl) ?_
  rintro r σ1 ⟨rfl, hf⟩
  have hJ1 := jv_J_y hJ hf
  have hme := jx_fx_me (jx_fy_x hf)
  refine ⟨_, rfl, hJ1.2.2.2.2.2.2, jw_T_mono (jm_corner hJ1.1.2.1.1.1 (jv_cbd hJ1.1) r0 r1) (Nat.le_of_ble_eq_true rfl) ?_⟩
  rintro r2 σ2 ⟨rfl, hz⟩
  exact ⟨congrArg (fun z => some (jv_g z)) (jv_cf_me hme a0 a1), by rw [hz]; exact jv_J_I hJ1⟩
theorem jv_wishAt {n : Nat} {s : Int → Int} {o : Nat} {C : List (ge_R × Int)} {σ : jw_H} (hJ : jv_J n s o C σ) {a0 a1 a2 : Int} (r0 : jw_rg a0) (r1 : jw_rg a1) (r2 : jw_rg a2) : jv_op n s 31 122 264 [.inl a0, .inl a1, .inl a2] jv_g σ := by
  have hP := hJ.1.2.1.1.1
  refine jw_T_mono (jx_wishAt hJ.1 r0 r1 r2) (Nat.le_of_ble_eq_true rfl) ?_
  rintro r σ1 ⟨rfl, hf⟩
  have hJ1 := jv_J_y hJ hf
  have hme := jx_fx_me (jx_fy_x hf)
  refine ⟨_, rfl, hJ1.2.2.2.2.2.2, jw_T_mono (jm_wishAt hJ1.1.2.1.1.1 (jv_cbd hJ1.1) r0 r1 r2) (Nat.le_of_ble_eq_true rfl) ?_⟩
  rintro r2 σ2 ⟨rfl, hz⟩
  exact ⟨congrArg (fun z => some (jv_g z)) (jv_waf_me hme a0 a1 a2), by rw [hz]; exact jv_J_I hJ1⟩
theorem jv_cornerIs {n : Nat} {s : Int → Int} {o : Nat} {C : List (ge_R × Int)} {σ : jw_H} (hJ : jv_J n s o C σ) {a0 a1 : Int} (r0 : jw_rg a0) (r1 : jw_rg a1) : jv_op n s 31 123 265 [.inl a0, .inl a1] jv_i σ := by
  have hP := hJ.1.2.1.1.1
  refine jw_T_mono (jx_cornerIs hJ.1 r0 r1) (Nat.le_of_ble_eq_true rfl) ?_
  rintro r σ1 ⟨rfl, hf, hj⟩
  have hJ1 := jv_J_x hJ hf hj
  have hme := jx_fx_me (hf)
  refine ⟨_, rfl, hJ1.2.2.2.2.2.2, jw_T_mono (jm_cornerIs hJ1.1.2.1 r0 r1) (Nat.le_of_ble_eq_true rfl) ?_⟩
  rintro r2 σ2 ⟨rfl, hz⟩
  exact ⟨congrArg (fun z => some (jv_i z)) (jm_cia_me hme a0 a1), by rw [hz]; exact jv_J_I hJ1⟩
theorem jv_edge {n : Nat} {s : Int → Int} {o : Nat} {C : List (ge_R × Int)} {σ : jw_H} (hJ : jv_J n s o C σ) {a0 a1 : Int} (r0 : jw_rg a0) (r1 : jw_rg a1) : jv_op n s 31 124 266 [.inl a0, .inl a1] jv_i σ := by
  have hP := hJ.1.2.1.1.1
  refine jw_T_mono (jx_edge hJ.1 r0 r1) (Nat.le_of_ble_eq_true rfl) ?_
  rintro r σ1 ⟨v, rfl, hf, hj, hR⟩
  have hJ1 := jv_J_x hJ hf hj
  have hme := jx_fx_me (hf)
  refine ⟨_, rfl, hJ1.2.2.2.2.2.2, jw_T_mono (jm_edge (jv_cbd hJ1.1) (jv_mkl hJ1.1).1 (jv_mkl hJ1.1).2 r0 r1) (Nat.le_of_ble_eq_true rfl) ?_⟩
  rintro r2 σ2 ⟨v2, rfl, hz, hR2⟩
  have hv : v2 = v := jm_ea_uq ((jm_ea_me hme a0 a1 _).mp hR2) hR
  rw [hv]
  exact ⟨rfl, by rw [hz]; exact jv_J_I hJ1⟩
theorem jv_all {n : Nat} {s : Int → Int} {o : Nat} {C : List (ge_R × Int)} {σ : jw_H} (hJ : jv_J n s o C σ) {a0 : Int} (r0 : jw_rg a0) : jv_op n s 31 125 282 [.inl a0] jv_i σ := by
  have hP := hJ.1.2.1.1.1
  refine jw_T_mono (jx_all hJ.1 r0) (Nat.le_of_ble_eq_true rfl) ?_
  rintro r σ1 ⟨rfl, hf, hj⟩
  have hJ1 := jv_J_x hJ hf hj
  have hme := jx_fx_me (hf)
  refine ⟨_, rfl, hJ1.2.2.2.2.2.2, jw_T_mono (jm_alls hJ1.1.2.1 r0) (Nat.le_of_ble_eq_true rfl) ?_⟩
  rintro r2 σ2 ⟨rfl, hz⟩
  exact ⟨congrArg (fun z => some (jv_i z)) (jm_all_me hme hP a0), jv_J_I (jv_J_z hJ1 hz)⟩
theorem jv_weights {n : Nat} {s : Int → Int} {o : Nat} {C : List (ge_R × Int)} {σ : jw_H} (hJ : jv_J n s o C σ) {a0 a1 : Int} (r0 : jw_rg a0) (r1 : jw_rg a1) : jv_op n s 31 126 286 [.inl a0, .inl a1] jv_g σ := by
  have hP := hJ.1.2.1.1.1
  refine jw_T_mono (jx_weights hJ.1 r0 r1) (Nat.le_of_ble_eq_true rfl) ?_
  rintro r σ1 ⟨rfl, hf⟩
  have hJ1 := jv_J_y hJ hf
  have hme := jx_fx_me (jx_fy_x hf)
  refine ⟨_, rfl, hJ1.2.2.2.2.2.2, jw_T_mono (jm_weights hJ1.1.2.1 r0 r1) (Nat.le_of_ble_eq_true rfl) ?_⟩
  rintro r2 σ2 ⟨rfl, hz⟩
  exact ⟨congrArg (fun z => some (jv_g z)) (jm_wta_me hme a0 a1), jv_J_I (jv_J_z hJ1 hz)⟩
theorem jv_ideal {n : Nat} {s : Int → Int} {o : Nat} {C : List (ge_R × Int)} {σ : jw_H} (hJ : jv_J n s o C σ) {a0 a1 : Int} (r0 : jw_rg a0) (r1 : jw_rg a1) : jv_op n s 31 127 292 [.inl a0, .inl a1] jv_g σ := by
  have hP := hJ.1.2.1.1.1
  refine jw_T_mono (jx_ideal hJ.1 r0 r1) (Nat.le_of_ble_eq_true rfl) ?_
  rintro r σ1 ⟨v, rfl, hf, hj, hR⟩
  have hJ1 := jv_J_x hJ hf hj
  have hme := jx_fx_me (hf)
  refine ⟨_, rfl, hJ1.2.2.2.2.2.2, jw_T_mono (jm_ideal hJ1.1.2.1 r0 r1) (Nat.le_of_ble_eq_true rfl) ?_⟩
  rintro r2 σ2 ⟨v2, rfl, hz, hR2⟩
  have hv : v2 = v := jm_ida_uq ((jm_ida_me hme a0 a1 _).mp hR2) hR
  rw [hv]
  exact ⟨rfl, by rw [hz]; exact jv_J_I hJ1⟩
theorem jv_best {n : Nat} {s : Int → Int} {o : Nat} {C : List (ge_R × Int)} {σ : jw_H} (hJ : jv_J n s o C σ) {a0 a1 a2 a3 : Int} (r0 : jw_rg a0) (r1 : jw_rg a1) (r2 : jw_rg a2) (r3 : jw_rg a3) : jv_op n s 31 128 297 [.inl a0, .inl a1, .inl a2, .inl a3] jv_g σ := by
  have hP := hJ.1.2.1.1.1
  refine jw_T_mono (jx_best hJ.1 r0 r1 r2 r3) (Nat.le_of_ble_eq_true rfl) ?_
  rintro r σ1 ⟨v, rfl, hf, hR⟩
  have hJ1 := jv_J_y hJ hf
  have hme := jx_fx_me (jx_fy_x hf)
  refine ⟨_, rfl, hJ1.2.2.2.2.2.2, jw_T_mono (jm_best hJ1.1.2.1 r0 r1 r2 r3) (Nat.le_of_ble_eq_true rfl) ?_⟩
  rintro r2 σ2 ⟨v2, rfl, hz, hR2⟩
  have hv : v2 = v := jm_bsa_uq ((jm_bsa_me hme a0 a1 a2 a3 _).mp hR2) hR
  rw [hv]
  exact ⟨rfl, jv_J_I (jv_J_z hJ1 hz)⟩
theorem jv_behind {n : Nat} {s : Int → Int} {o : Nat} {C : List (ge_R × Int)} {σ : jw_H} (hJ : jv_J n s o C σ) {a0 : Int} (r0 : jw_rg a0) : jv_op n s 31 129 300 [.inl a0] jv_i σ := by
  have hP := hJ.1.2.1.1.1
  refine jw_T_mono (jx_behind hJ.1 r0) (Nat.le_of_ble_eq_true rfl) ?_
  rintro r σ1 ⟨v, rfl, hf, hR⟩
  have hJ1 := jv_J_y hJ hf
  have hme := jx_fx_me (jx_fy_x hf)
  refine ⟨_, rfl, hJ1.2.2.2.2.2.2, jw_T_mono (jv_behindR hJ1.1.2.1 r0) (Nat.le_of_ble_eq_true rfl) ?_⟩
  rintro r2 σ2 ⟨v2, rfl, hz, hR2⟩
  have hv : v2 = v := jn_bha_uq ((jn_bha_me hme a0 _).mp hR2) hR
  rw [hv]
  exact ⟨rfl, by rw [hz]; exact jv_J_I hJ1⟩
theorem jv_heldAt {n : Nat} {s : Int → Int} {o : Nat} {C : List (ge_R × Int)} {σ : jw_H} (hJ : jv_J n s o C σ) {a0 a1 a2 a3 : Int} (r0 : jw_rg a0) (r1 : jw_rg a1) (r2 : jw_rg a2) (r3 : jw_rg a3) : jv_op n s 31 132 301 [.inl a0, .inl a1, .inl a2, .inl a3] jv_g σ := by
  have hP := hJ.1.2.1.1.1
  refine jw_T_mono (jx_heldAt hJ.1 r0 r1 r2 r3) (Nat.le_of_ble_eq_true rfl) ?_
  rintro r σ1 ⟨v, rfl, hf, hR⟩
  have hJ1 := jv_J_y hJ hf
  have hme := jx_fx_me (jx_fy_x hf)
  refine ⟨_, rfl, hJ1.2.2.2.2.2.2, jw_T_mono (jm_heldAt hJ1.1.2.1 r0 r1 r2 r3) (Nat.le_of_ble_eq_true rfl) ?_⟩
  rintro r2 σ2 ⟨v2, rfl, hz, hR2⟩
  have hv : v2 = v := jn_hl_uq ((jn_hl_me hme hP a0 a1 a2 a3 _).mp hR2) hR
  rw [hv]
  exact ⟨rfl, jv_J_I (jv_J_z hJ1 hz)⟩
theorem jv_plan {n : Nat} {s : Int → Int} {o : Nat} {C : List (ge_R × Int)} {σ : jw_H} (hJ : jv_J n s o C σ) {a0 a1 a2 : Int} (r0 : jw_rg a0) (r1 : jw_rg a1) (r2 : jw_rg a2) : jv_op n s 31 133 304 [.inl a0, .inl a1, .inl a2] jv_i σ := by
  have hP := hJ.1.2.1.1.1
  refine jw_T_mono (jx_plan hJ.1 r0 r1 r2) (Nat.le_of_ble_eq_true rfl) ?_
  rintro r σ1 ⟨v, rfl, hf, hR⟩
  have hJ1 := jv_J_y hJ hf
  have hme := jx_fx_me (jx_fy_x hf)
  refine ⟨_, rfl, hJ1.2.2.2.2.2.2, jw_T_mono (jm_plan hJ1.1.2.1.1.1 hJ1.1.2.1.1.2.2.2.2.1 hJ1.1.2.1.1.2.1 r0 r1 r2) (Nat.le_of_ble_eq_true rfl) ?_⟩
  rintro r2 σ2 ⟨v2, rfl, hz, hR2⟩
  have hv : v2 = v := jm_pa_uq ((jm_pa_me hme hP a0 a1 a2 _).mp hR2) hR
  rw [hv]
  exact ⟨rfl, by rcases hz with hz | hz; rw [hz]; exact jv_J_I hJ1; exact jv_J_I (jv_J_z hJ1 (jm_fe_z hz))⟩
theorem jv_gain {n : Nat} {s : Int → Int} {o : Nat} {C : List (ge_R × Int)} {σ : jw_H} (hJ : jv_J n s o C σ) {a0 a1 a2 a3 : Int} (r0 : jw_rg a0) (r1 : jw_rg a1) (r2 : jw_rg a2) (r3 : jw_rg a3) : jv_op n s 31 134 305 [.inl a0, .inl a1, .inl a2, .inl a3] jv_g σ := by
  have hP := hJ.1.2.1.1.1
  refine jw_T_mono (jx_gain hJ.1 r0 r1 r2 r3) (Nat.le_of_ble_eq_true rfl) ?_
  rintro r σ1 ⟨v, rfl, hf, hR⟩
  have hJ1 := jv_J_y hJ hf
  have hme := jx_fx_me (jx_fy_x hf)
  refine ⟨_, rfl, hJ1.2.2.2.2.2.2, jw_T_mono (jm_gain hJ1.1.2.1.1.1 hJ1.1.2.1.1.2.2.2.2.1 hJ1.1.2.1.1.2.1 r0 r1 r2 r3) (Nat.le_of_ble_eq_true rfl) ?_⟩
  rintro r2 σ2 ⟨v2, rfl, hz, hR2⟩
  have hv : v2 = v := jm_gna_uq ((jm_gna_me hme hP a0 a1 a2 a3 _).mp hR2) hR
  rw [hv]
  exact ⟨rfl, by rcases hz with hz | hz; rw [hz]; exact jv_J_I hJ1; exact jv_J_I (jv_J_z hJ1 (jm_fe_z hz))⟩
theorem jv_better {n : Nat} {s : Int → Int} {o : Nat} {C : List (ge_R × Int)} {σ : jw_H} (hJ : jv_J n s o C σ) {a0 a1 a2 a3 : Int} (r0 : jw_rg a0) (r1 : jw_rg a1) (r2 : jw_rg a2) (r3 : jw_rg a3) : jv_op n s 31 135 306 [.inl a0, .inl a1, .inl a2, .inl a3] jv_g σ := by
  have hP := hJ.1.2.1.1.1
  refine jw_T_mono (jx_better hJ.1 r0 r1 r2 r3) (Nat.le_of_ble_eq_true rfl) ?_
  rintro r σ1 ⟨v, rfl, hf, hR⟩
  have hJ1 := jv_J_y hJ hf
  have hme := jx_fx_me (jx_fy_x hf)
  refine ⟨_, rfl, hJ1.2.2.2.2.2.2, jw_T_mono (jm_better hJ1.1.2.1.1.1 hJ1.1.2.1.1.2.2.2.2.1 hJ1.1.2.1.1.2.1 r0 r1 r2 r3) (Nat.le_of_ble_eq_true rfl) ?_⟩
  rintro r2 σ2 ⟨v2, rfl, hz, hR2⟩
  have hv : v2 = v := jm_bta_uq ((jm_bta_me hme hP a0 a1 a2 a3 _).mp hR2) hR
  rw [hv]
  exact ⟨rfl, by rcases hz with hz | hz; rw [hz]; exact jv_J_I hJ1; exact jv_J_I (jv_J_z hJ1 (jm_fe_z hz))⟩
theorem jv_face {n : Nat} {s : Int → Int} {o : Nat} {C : List (ge_R × Int)} {σ : jw_H} (hJ : jv_J n s o C σ) {a0 a1 : Int} (r0 : jw_rg a0) (r1 : jw_rg a1) : jv_op n s 31 137 277 [.inl a0, .inl a1] jv_i σ := by
  have hP := hJ.1.2.1.1.1
  refine jw_T_mono (jx_face hJ.1 r0 r1) (Nat.le_of_ble_eq_true rfl) ?_
  rintro r σ1 ⟨rfl, hf⟩
  have hJ1 := jv_J_y hJ hf
  have hme := jx_fx_me (jx_fy_x hf)
  refine ⟨_, rfl, hJ1.2.2.2.2.2.2, jw_T_mono (jm_face hJ1.1.2.1 r0 r1) (Nat.le_of_ble_eq_true rfl) ?_⟩
  rintro r2 σ2 ⟨rfl, hz⟩
  exact ⟨congrArg (fun z => some (jv_i z)) (jm_fca_me hme hP a0 a1), jv_J_I (jv_J_z hJ1 hz)⟩
theorem jv_needed {n : Nat} {s : Int → Int} {o : Nat} {C : List (ge_R × Int)} {σ : jw_H} (hJ : jv_J n s o C σ) {a0 : Int} (r0 : jw_rg a0) : jv_op n s 31 138 280 [.inl a0] jv_i σ := by
  have hP := hJ.1.2.1.1.1
  refine jw_T_mono (jx_needed hJ.1 r0) (Nat.le_of_ble_eq_true rfl) ?_
  rintro r σ1 ⟨rfl, hf⟩
  have hJ1 := jv_J_y hJ hf
  have hme := jx_fx_me (jx_fy_x hf)
  refine ⟨_, rfl, hJ1.2.2.2.2.2.2, jw_T_mono (jm_needed hJ1.1.2.1 r0) (Nat.le_of_ble_eq_true rfl) ?_⟩
  rintro r2 σ2 ⟨rfl, hz⟩
  exact ⟨congrArg (fun z => some (jv_i z)) (jm_nda_me hme hP a0), jv_J_I (jv_J_z hJ1 hz)⟩
theorem jv_turn {n : Nat} {s : Int → Int} {o : Nat} {C : List (ge_R × Int)} {σ : jw_H} (hJ : jv_J n s o C σ) {a0 : Int} (r0 : jw_rg a0) : jv_op n s 31 140 289 [.inl a0] jv_g σ := by
  have hP := hJ.1.2.1.1.1
  refine jw_T_mono (jx_turn hJ.1 r0) (Nat.le_of_ble_eq_true rfl) ?_
  rintro r σ1 ⟨v, rfl, hf, hR⟩
  have hJ1 := jv_J_y hJ hf
  have hme := jx_fx_me (jx_fy_x hf)
  refine ⟨_, rfl, hJ1.2.2.2.2.2.2, jw_T_mono (jm_turn hJ1.1.2.1 r0) (Nat.le_of_ble_eq_true rfl) ?_⟩
  rintro r2 σ2 ⟨v2, rfl, hz, hR2⟩
  have hv : v2 = v := jn_tra_uq ((jn_tra_me hme a0 _).mp hR2) hR
  rw [hv]
  exact ⟨rfl, jv_J_I (jv_J_z hJ1 hz)⟩
theorem jv_whole {n : Nat} {s : Int → Int} {o : Nat} {C : List (ge_R × Int)} {σ : jw_H} (hJ : jv_J n s o C σ) {a0 a1 a2 a3 : Int} (r0 : jw_rg a0) (r1 : jw_rg a1) (r2 : jw_rg a2) (r3 : jw_rg a3) : jv_op n s 31 141 307 [.inl a0, .inl a1, .inl a2, .inl a3] jv_i σ := by
  have hP := hJ.1.2.1.1.1
  refine jw_T_mono (jx_whole hJ.1 r0 r1 r2 r3) (Nat.le_of_ble_eq_true rfl) ?_
  rintro r σ1 ⟨v, rfl, hf, hR⟩
  have hJ1 := jv_J_y hJ hf
  have hme := jx_fx_me (jx_fy_x hf)
  refine ⟨_, rfl, hJ1.2.2.2.2.2.2, jw_T_mono (jm_whole hJ1.1.2.1 r0 r1 r2 r3) (Nat.le_of_ble_eq_true rfl) ?_⟩
  rintro r2 σ2 ⟨v2, rfl, hz, hR2⟩
  have hv : v2 = v := jn_wha_uq ((jn_wha_me hme hP a0 a1 a2 a3 _).mp hR2) hR
  rw [hv]
  exact ⟨rfl, jv_J_I (jv_J_z hJ1 hz)⟩
theorem jv_shadow {n : Nat} {s : Int → Int} {o : Nat} {C : List (ge_R × Int)} {σ : jw_H} (hJ : jv_J n s o C σ) {a0 a1 a2 a3 a4 : Int} (r0 : jw_rg a0) (r1 : jw_rg a1) (r2 : jw_rg a2) (r3 : jw_rg a3) (r4 : jw_rg a4) : jv_op n s 31 142 308 [.inl a0, .inl a1, .inl a2, .inl a3, .inl a4] jv_g σ := by
  have hP := hJ.1.2.1.1.1
  refine jw_T_mono (jx_shadow hJ.1 r0 r1 r2 r3 r4) (Nat.le_of_ble_eq_true rfl) ?_
  rintro r σ1 ⟨v, rfl, hf, hR⟩
  have hJ1 := jv_J_y hJ hf
  have hme := jx_fx_me (jx_fy_x hf)
  refine ⟨_, rfl, hJ1.2.2.2.2.2.2, jw_T_mono (jm_shadow hJ1.1.2.1 r0 r1 r2 r3 r4) (Nat.le_of_ble_eq_true rfl) ?_⟩
  rintro r2 σ2 ⟨v2, rfl, hz, hR2⟩
  have hv : v2 = v := jm_shd_uq (jv_cbd hJ.1) ((jm_shd_me hme hP _ a0 a1 a2 a3 a4 _).mp hR2) hR
  rw [hv]
  exact ⟨rfl, jv_J_I (jv_J_z hJ1 hz)⟩
theorem jv_slack {n : Nat} {s : Int → Int} {o : Nat} {C : List (ge_R × Int)} {σ : jw_H} (hJ : jv_J n s o C σ) {a0 a1 a2 : Int} (r0 : jw_rg a0) (r1 : jw_rg a1) (r2 : jw_rg a2) : jv_op n s 31 143 309 [.inl a0, .inl a1, .inl a2] jv_g σ := by
  have hP := hJ.1.2.1.1.1
  refine jw_T_mono (jx_slack hJ.1 r0 r1 r2) (Nat.le_of_ble_eq_true rfl) ?_
  rintro r σ1 ⟨rfl, hf⟩
  have hJ1 := jv_J_y hJ hf
  have hme := jx_fx_me (jx_fy_x hf)
  refine ⟨_, rfl, hJ1.2.2.2.2.2.2, jw_T_mono (jm_slack hJ1.1.2.1 r0 r1 r2) (Nat.le_of_ble_eq_true rfl) ?_⟩
  rintro r2 σ2 ⟨rfl, hz⟩
  exact ⟨congrArg (fun z => some (jv_g z)) (jm_sla_me hme hP a0 a1 a2), by rw [hz]; exact jv_J_I hJ1⟩
theorem jv_middle {n : Nat} {s : Int → Int} {o : Nat} {C : List (ge_R × Int)} {σ : jw_H} (hJ : jv_J n s o C σ) {a0 a1 : Int} (r0 : jw_rg a0) (r1 : jw_rg a1) : jv_op n s 31 144 312 [.inl a0, .inl a1] jv_g σ := by
  have hP := hJ.1.2.1.1.1
  refine jw_T_mono (jx_middle hJ.1 r0 r1) (Nat.le_of_ble_eq_true rfl) ?_
  rintro r σ1 ⟨v, rfl, hf, hj, hR⟩
  have hJ1 := jv_J_x hJ hf hj
  have hme := jx_fx_me (hf)
  refine ⟨_, rfl, hJ1.2.2.2.2.2.2, jw_T_mono (jm_middle hJ1.1.2.1 r0 r1) (Nat.le_of_ble_eq_true rfl) ?_⟩
  rintro r2 σ2 ⟨v2, rfl, hz, hR2⟩
  have hv : v2 = v := jk_mda_uq ((jk_mda_me hme a0 a1 _).mp hR2) hR
  rw [hv]
  exact ⟨rfl, jv_J_I (jv_J_z hJ1 hz)⟩
theorem jv_reach {n : Nat} {s : Int → Int} {o : Nat} {C : List (ge_R × Int)} {σ : jw_H} (hJ : jv_J n s o C σ) {a0 a1 a2 : Int} (r0 : jw_rg a0) (r1 : jw_rg a1) (r2 : jw_rg a2) : jv_op n s 31 145 314 [.inl a0, .inl a1, .inl a2] jv_i σ := by
  have hP := hJ.1.2.1.1.1
  refine jw_T_mono (jx_reach hJ.1 r0 r1 r2) (Nat.le_of_ble_eq_true rfl) ?_
  rintro r σ1 ⟨v, rfl, hf, hj, hR⟩
  have hJ1 := jv_J_x hJ hf hj
  have hme := jx_fx_me (hf)
  refine ⟨_, rfl, hJ1.2.2.2.2.2.2, jw_T_mono (jm_reach hJ1.1.2.1 r0 r1 r2) (Nat.le_of_ble_eq_true rfl) ?_⟩
  rintro r2 σ2 ⟨v2, rfl, hz, hR2⟩
  have hv : v2 = v := jm_rea_uq ((jm_rea_me hme a0 a1 a2 _).mp hR2) hR
  rw [hv]
  exact ⟨rfl, by rw [hz]; exact jv_J_I hJ1⟩
theorem jv_far {n : Nat} {s : Int → Int} {o : Nat} {C : List (ge_R × Int)} {σ : jw_H} (hJ : jv_J n s o C σ) {a0 a1 : Int} (r0 : jw_rg a0) (r1 : jw_rg a1) : jv_op n s 31 146 315 [.inl a0, .inl a1] jv_i σ := by
  have hP := hJ.1.2.1.1.1
  refine jw_T_mono (jx_far hJ.1 r0 r1) (Nat.le_of_ble_eq_true rfl) ?_
  rintro r σ1 ⟨v, rfl, hf, hj, hR⟩
  have hJ1 := jv_J_x hJ hf hj
  have hme := jx_fx_me (hf)
  refine ⟨_, rfl, hJ1.2.2.2.2.2.2, jw_T_mono (jm_far hJ1.1.2.1 r0 r1) (Nat.le_of_ble_eq_true rfl) ?_⟩
  rintro r2 σ2 ⟨v2, rfl, hz, hR2⟩
  have hv : v2 = v := jm_faa_uq ((jm_faa_me hme a0 a1 _).mp hR2) hR
  rw [hv]
  exact ⟨rfl, by rw [hz]; exact jv_J_I hJ1⟩
theorem jv_along {n : Nat} {s : Int → Int} {o : Nat} {C : List (ge_R × Int)} {σ : jw_H} (hJ : jv_J n s o C σ) {a0 a1 a2 : Int} (r0 : jw_rg a0) (r1 : jw_rg a1) (r2 : jw_rg a2) : jv_op n s 31 147 316 [.inl a0, .inl a1, .inl a2] jv_i σ := by
  have hP := hJ.1.2.1.1.1
  refine jw_T_mono (jx_along hJ.1 r0 r1 r2) (Nat.le_of_ble_eq_true rfl) ?_
  rintro r σ1 ⟨v, rfl, hf, hR⟩
  have hJ1 := jv_J_y hJ hf
  have hme := jx_fx_me (jx_fy_x hf)
  refine ⟨_, rfl, hJ1.2.2.2.2.2.2, jw_T_mono (jm_along hJ1.1.2.1 r0 r1 r2) (Nat.le_of_ble_eq_true rfl) ?_⟩
  rintro r2 σ2 ⟨v2, rfl, hz, hR2⟩
  have hv : v2 = v := jn_ala_uq ((jn_ala_me hme hP a0 a1 a2 _).mp hR2) hR
  rw [hv]
  exact ⟨rfl, jv_J_I (jv_J_z hJ1 hz)⟩
theorem jv_regret {n : Nat} {s : Int → Int} {o : Nat} {C : List (ge_R × Int)} {σ : jw_H} (hJ : jv_J n s o C σ) {a0 : Int} (r0 : jw_rg a0) : jv_op n s 31 148 318 [.inl a0] jv_g σ := by
  have hP := hJ.1.2.1.1.1
  refine jw_T_mono (jx_regret hJ.1 r0) (Nat.le_of_ble_eq_true rfl) ?_
  rintro r σ1 ⟨v, rfl, hf, hR⟩
  have hJ1 := jv_J_y hJ hf
  have hme := jx_fx_me (jx_fy_x hf)
  refine ⟨_, rfl, hJ1.2.2.2.2.2.2, jw_T_mono (jm_regret hJ1.1.2.1 r0) (Nat.le_of_ble_eq_true rfl) ?_⟩
  rintro r2 σ2 ⟨v2, rfl, hz, hR2⟩
  have hv : v2 = v := jm_rga_uq ((jm_rga_me hme a0 _).mp hR2) hR
  rw [hv]
  exact ⟨rfl, jv_J_I (jv_J_z hJ1 hz)⟩
theorem jv_area {n : Nat} {s : Int → Int} {o : Nat} {C : List (ge_R × Int)} {σ : jw_H} (hJ : jv_J n s o C σ) {a0 : Int} (r0 : jw_rg a0) : jv_op n s 31 150 319 [.inl a0] jv_g σ := by
  have hP := hJ.1.2.1.1.1
  refine jw_T_mono (jx_area hJ.1 (fun hq => jk_aP_ok hJ.1.2.1 hq) r0) (Nat.le_of_ble_eq_true rfl) ?_
  rintro r σ1 ⟨v, rfl, hf, hR⟩
  have hJ1 := jv_J_y hJ hf
  have hme := jx_fx_me (jx_fy_x hf)
  refine ⟨_, rfl, hJ1.2.2.2.2.2.2, jw_T_mono (jm_area hJ1.1.2.1 (fun hq => jk_aP_ok hJ1.1.2.1 hq) r0) (Nat.le_of_ble_eq_true rfl) ?_⟩
  rintro r2 σ2 ⟨v2, rfl, hz, hR2⟩
  have hv : v2 = v := jk_ara_uq ((jk_ara_me hme hP a0 _).mp hR2) hR
  rw [hv]
  exact ⟨rfl, jv_J_I (jv_J_z hJ1 hz)⟩
theorem jv_ranked {n : Nat} {s : Int → Int} {o : Nat} {C : List (ge_R × Int)} {σ : jw_H} (hJ : jv_J n s o C σ) {a0 a1 : Int} (r0 : jw_rg a0) (r1 : jw_rg a1) : jv_op n s 31 152 320 [.inl a0, .inl a1] jv_i σ := by
  have hP := hJ.1.2.1.1.1
  refine jw_T_mono (jx_ranked hJ.1 r0 r1) (Nat.le_of_ble_eq_true rfl) ?_
  rintro r σ1 ⟨v, rfl, hf, hj, hR⟩
  have hJ1 := jv_J_x hJ hf hj
  have hme := jx_fx_me (hf)
  refine ⟨_, rfl, hJ1.2.2.2.2.2.2, jw_T_mono (jm_ranked hJ1.1.2.1 r0 r1) (Nat.le_of_ble_eq_true rfl) ?_⟩
  rintro r2 σ2 ⟨v2, rfl, hz, hR2⟩
  have hv : v2 = v := jm_rka_uq ((jm_rka_me hme a0 a1 _).mp hR2) hR
  rw [hv]
  exact ⟨rfl, by rw [hz]; exact jv_J_I hJ1⟩
theorem jv_price {n : Nat} {s : Int → Int} {o : Nat} {C : List (ge_R × Int)} {σ : jw_H} (hJ : jv_J n s o C σ) {a0 a1 a2 a3 a4 : Int} (r0 : jw_rg a0) (r1 : jw_rg a1) (r2 : jw_rg a2) (r3 : jw_rg a3) (r4 : jw_rg a4) : jv_op n s 31 153 321 [.inl a0, .inl a1, .inl a2, .inl a3, .inl a4] jv_g σ := by
  have hP := hJ.1.2.1.1.1
  refine jw_T_mono (jx_price hJ.1 r0 r1 r2 r3 r4) (Nat.le_of_ble_eq_true rfl) ?_
  rintro r σ1 ⟨v, rfl, hf, hR⟩
  have hJ1 := jv_J_y hJ hf
  have hme := jx_fx_me (jx_fy_x hf)
  refine ⟨_, rfl, hJ1.2.2.2.2.2.2, jw_T_mono (jm_price hJ1.1.2.1 r0 r1 r2 r3 r4) (Nat.le_of_ble_eq_true rfl) ?_⟩
  rintro r2 σ2 ⟨v2, rfl, hz, hR2⟩
  have hv : v2 = v := jm_pri_uq ((jm_pri_me hme hP a0 a1 a2 a3 a4 _).mp hR2) hR
  rw [hv]
  exact ⟨rfl, by rw [hz]; exact jv_J_I hJ1⟩
theorem jv_walk {n : Nat} {s : Int → Int} {o : Nat} {C : List (ge_R × Int)} {σ : jw_H} (hJ : jv_J n s o C σ) {a0 a1 a2 a3 a4 : Int} (r0 : jw_rg a0) (r1 : jw_rg a1) (r2 : jw_rg a2) (r3 : jw_rg a3) (r4 : jw_rg a4) : jv_op n s 31 154 323 [.inl a0, .inl a1, .inl a2, .inl a3, .inl a4] jv_i σ := by
  have hP := hJ.1.2.1.1.1
  refine jw_T_mono (jx_walk hJ.1 r0 r1 r2 r3 r4) (Nat.le_of_ble_eq_true rfl) ?_
  rintro r σ1 ⟨v, rfl, hf, hj, hR⟩
  have hJ1 := jv_J_x hJ hf hj
  have hme := jx_fx_me (hf)
  refine ⟨_, rfl, hJ1.2.2.2.2.2.2, jw_T_mono (jm_walk hJ1.1.2.1 r0 r1 r2 r3 r4) (Nat.le_of_ble_eq_true rfl) ?_⟩
  rintro r2 σ2 ⟨v2, rfl, hz, hR2⟩
  have hv : v2 = v := jn_wka_uq ((jn_wka_me hme a0 a1 a2 a3 a4 _).mp hR2) hR
  rw [hv]
  exact ⟨rfl, jv_J_I (jv_J_z hJ1 hz)⟩
theorem jv_spelt {n : Nat} {s : Int → Int} {o : Nat} {C : List (ge_R × Int)} {σ : jw_H} (hJ : jv_J n s o C σ) {a0 a1 : Int} (r0 : jw_rg a0) (r1 : jw_rg a1) : jv_op n s 31 157 330 [.inl a0, .inl a1] jv_i σ := by
  have hP := hJ.1.2.1.1.1
  refine jw_T_mono (jx_spelt hJ.1 r0 r1) (Nat.le_of_ble_eq_true rfl) ?_
  rintro r σ1 ⟨v, rfl, hf, hR⟩
  have hJ1 := jv_J_y hJ hf
  have hme := jx_fx_me (jx_fy_x hf)
  refine ⟨_, rfl, hJ1.2.2.2.2.2.2, jw_T_mono (jm_spelt hJ1.1.2.1 r0 r1) (Nat.le_of_ble_eq_true rfl) ?_⟩
  rintro r2 σ2 ⟨v2, rfl, hz, hR2⟩
  have hv : v2 = v := jn_spa_uq ((jn_spa_me hme a0 a1 _).mp hR2) hR
  rw [hv]
  exact ⟨rfl, jv_J_I (jv_J_z hJ1 hz)⟩

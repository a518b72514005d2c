/-! ===== needed: class and reference ===== -/
/-- bounds filled, in a query -/
theorem jx_fillK {n o : Nat} {C : List (ge_R × Int)} {σ : jw_H} (hK : jx_K n o C σ) {u v : Int} (hu : jw_rg u) (hv : jw_rg v) : jw_T (js_S n) 5 97 [.inr (.inr 47), .inr (.inr o), .inl u, .inl v] σ (fun r σ' => r = none ∧ jx_bs σ (jx_fL σ u v (σ 103 5 + 2 * σ 103 3).toNat ++ jx_nx (σ 103 3)) σ') := by
  have hI := hK.1
  obtain ⟨hto, hfo, hp, hP, e0, e1, e2, hPm, hcb, c0, p0, -⟩ := jx_I0_x hI
  have hq := hPm.1
  have hk := hPm.2.2.1
  refine jw_T_mono (jx_fill hp hP hu hv) (Nat.le_refl _) ?_
  rintro r σ' ⟨h1, h2⟩
  rw [e0, e2, jx_fL_pq hI.1.2.2.2 (by omega) _ (by omega)] at h2
  exact ⟨h1, h2⟩
/-- all points found, in a query -/
theorem jx_findK {n : Nat} {C : List (ge_R × Int)} {σ σ1 : jw_H} (hKN : jm_KN σ C) {wo ra : Int} {E : List ge_R} (hwo : wo < σ 103 5) (hra : ra < σ 103 5) (hE : ∀ r ∈ E, ((σ 103 3 ≤ 2 → r.2.2.1 = 0) ∧ (σ 103 3 ≤ 1 → r.2.1 = 0)) ∧ jx_rb r) (hl : E.length ≤ 3) (H : jx_bs σ ((jx_fL σ wo ra (σ 103 5 + 2 * σ 103 3).toNat ++ jx_nx (σ 103 3)) ++ E) σ1) : jw_T (js_S n) 4 101 [.inr (.inr 47)] σ1 (fun r σ' => r = none ∧ jx_fq σ σ' ∧ ∃ P, jx_pl σ' 48 P ∧ jx_so P ∧ P.length ≤ 48 ∧ (∀ v ∈ P, jx_bd v) ∧ ∀ v, v ∈ P ↔ ge_V (E ++ jm_RR (σ 103 3) (jm_bk σ wo ra (σ 103 5).toNat)) v ∧ ge_g v = 1) := by
  have hP := hKN.1.1
  have hq := hP.1
  have hk := hP.2.2.1
  have hV := jx_fill_V hP hwo hra E (fun r hr => (hE r hr).1)
  have hbd : ∀ v, ge_V (E ++ jm_RR (σ 103 3) (jm_bk σ wo ra (σ 103 5).toNat)) v → ge_g v = 1 → jx_bd v := fun v hv hg => (jx_fV_bd hP hwo hra (fun r hr => (hE r hr).2.1) hv hg).2
  have hlen : ((jx_fL σ wo ra (σ 103 5 + 2 * σ 103 3).toNat ++ jx_nx (σ 103 3)) ++ E).length ≤ 24 := by
    have h1 := jx_fL_len σ wo ra (σ 103 5 + 2 * σ 103 3).toNat
    have h2 : (jx_nx (σ 103 3)).length ≤ 2 := by
      unfold jx_nx
      split
      · simp
      · split <;> simp
    rw [List.length_append, List.length_append]
    omega
  refine jw_T_mono (jx_find_L H hlen (fun r hr => jx_fL_rb' hP hwo hra (fun r hr => (hE r hr).2) hr) (fun v hv hg => hbd v ((hV v).mp hv) hg)) (Nat.le_refl _) ?_
  rintro r σ' ⟨h1, h2, P, p1, p2, p3⟩
  refine ⟨h1, h2, P, p1, p2, jx_V_len p2 hlen p3, fun v hv => ?_, fun v => ?_⟩
  · have := (p3 v).mp hv
    exact hbd v ((hV v).mp this.1) this.2
  · rw [p3 v, hV v]
/-- without a keep something is allowed that is not with it -/
def jm_nd (σ : jw_H) (k : Int) : Prop := ∃ v, ge_V (jm_RR (σ 103 3) (jm_bk σ k (-1) (σ 103 5).toNat)) v ∧ 0 < ge_s (jm_kr σ k 0) v
theorem jm_nd_pp {σ : jw_H} {k : Int} (h : jm_nd σ k) : ∃ v, ge_V (jm_RR (σ 103 3) (jm_bk σ k (-1) (σ 103 5).toNat)) v ∧ ge_g v = 1 ∧ 0 < ge_s (jm_kr σ k 0) v := by
  obtain ⟨v, hv, hs⟩ := h
  obtain ⟨a1, a2, a3⟩ := ge_pp_ok hv.1.1
  refine ⟨ge_pp v, ge_e_V (ge_e_sym a1) hv.1.1 a3 hv, a2, ?_⟩
  have := (ge_sgn (ge_e_s a1 (jm_kr σ k 0)) hv.1.1 a3).1
  omega
noncomputable def jm_nda (σ : jw_H) (k : Int) : Int := if ¬ (0 ≤ k ∧ k < σ 103 5) then -1 else jx_b (jm_nd σ k)
theorem jm_nd_pq {σ σ' : jw_H} (h : jx_pq σ' σ) (hP : jm_Pb σ) {k : Int} (k0 : 0 ≤ k) (k1 : k < σ 103 5) : jm_nd σ' k ↔ jm_nd σ k := by
  have hq := hP.1
  have hk := hP.2.2.1
  unfold jm_nd
  rw [h.1.1, h.1.2.2, jx_pq_bk h (by omega) k (-1) _ (by omega), jx_pq_kr h k0 k1]
theorem jm_nda_me {σ0 σ : jw_H} (h : jx_me σ0 σ) (hP : jm_Pb σ0) (k : Int) : jm_nda σ k = jm_nda σ0 k := by
  unfold jm_nda
  rw [h 103 (by omega)]
  split
  · rfl
  · rename_i hc
    have := jm_nd_pq (jx_me_pq h) hP (k := k) (by omega) (by omega)
    rw [jx_b_iff this]
theorem jx_row_kr {μ : jw_H} {k : Int} (hP : jm_Pb μ) (k0 : 0 ≤ k) (k1 : k < μ 103 5) : jx_row μ k = jm_kr μ k 0 := by
  rw [← jx_rn_keep hP k0 k1, Int.add_zero]
  rfl
theorem jx_need_loop {n : Nat} {σ2 : jw_H} {o : Nat} {D : Nat} {k : Int} {Q : Option jw_V → jw_H → Prop} (hD : 3 ≤ D) (hto2 : (σ2 13 2).toNat = o) (hp : jx_po n o) (hP2 : jx_Pb σ2 o) (hm : 0 ≤ σ2 48 0 ∧ σ2 48 0 ≤ 64) (k0 : 0 ≤ k) (k1 : k < σ2 o 2) (hbn : ∀ j, 0 ≤ j → j < σ2 48 0 → -1000000 ≤ ge_s (jx_pr (jx_M σ2 o) k) (jx_pt σ2 48 j) ∧ ge_s (jx_pr (jx_M σ2 o) k) (jx_pt σ2 48 j) ≤ 1000000) (hY : (∃ j, 0 ≤ j ∧ j < σ2 48 0 ∧ ¬ ge_s (jx_row (jx_M σ2 o) k) (jx_pt σ2 48 j) ≤ 0) → Q (some (.inl 1)) σ2) (hQ : (∀ j, 0 ≤ j → j < σ2 48 0 → ge_s (jx_row (jx_M σ2 o) k) (jx_pt σ2 48 j) ≤ 0) → Q (some (.inl 0)) σ2) : ∀ (f : Nat) {j : Int}, 0 ≤ j → j + f = σ2 48 0 → (∀ c, 0 ≤ c → c < j → ge_s (jx_row (jx_M σ2 o) k) (jx_pt σ2 48 c) ≤ 0) → jw_W (js_S n) D md_138 25 [some (.inr (.inr 13)), some (.inl k), some (.inr (.inr 48)), some (.inl j)] [] σ2 Q
  | f, j, j0, hk, H => by
    have ih : j < σ2 48 0 → (∀ c, 0 ≤ c → c < j + 1 → ge_s (jx_row (jx_M σ2 o) k) (jx_pt σ2 48 c) ≤ 0) → jw_W (js_S n) D md_138 25 [some (.inr (.inr 13)), some (.inl k), some (.inr (.inr 48)), some (.inl (j + 1))] [] σ2 Q := by
      intro h1 h2
      match f, hk with
      | 0, hk => omega
      | f + 1, hk => exact jx_need_loop hD hto2 hp hP2 hm k0 k1 hbn hY hQ f (by omega) (by omega) h2
    have ho2 := hp.1
    have hq2 := hP2.1
    have f2 : σ2 o 2 = σ2 o 2 := rfl
    refine jw_W_n 2 (i' := 27) (ls' := [some (.inr (.inr 13)), some (.inl k), some (.inr (.inr 48)), some (.inl j)]) (st' := [.inr (.inr 48), .inl j]) rfl ?_
    refine jw_W_gf rfl rfl rfl ?_
    show jw_W (js_S n) _ md_138 28 [some (.inr (.inr 13)), some (.inl k), some (.inr (.inr 48)), some (.inl j)] [.inl (σ2 48 0), .inl j] σ2 _
    refine jw_W_ic rfl (by unfold jw_rg; omega) (by unfold jw_rg; omega) (fun hc1 => ?_) (fun hc1 => ?_)
    · have hc1 : j ≥ (σ2 48 0) := hc1
      refine jw_W_n 1 (i' := 55) (ls' := [some (.inr (.inr 13)), some (.inl k), some (.inr (.inr 48)), some (.inl j)]) (st' := [.inl 0]) rfl ?_
      refine jw_W_ir rfl ?_
      have hkl : j = σ2 48 0 := by omega
      subst hkl
      exact hQ H
    · have hc1 : ¬ (j ≥ (σ2 48 0)) := hc1
      refine jw_W_n 1 (i' := 30) (ls' := [some (.inr (.inr 13)), some (.inl k), some (.inr (.inr 48)), some (.inl j)]) (st' := [.inr (.inr 13)]) rfl ?_
      refine jw_W_gf rfl rfl rfl ?_
      show jw_W (js_S n) _ md_138 31 [some (.inr (.inr 13)), some (.inl k), some (.inr (.inr 48)), some (.inl j)] [.inr (.inr ((σ2 13 2).toNat))] σ2 _
      rw [hto2]
      refine jw_W_n 2 (i' := 33) (ls' := [some (.inr (.inr 13)), some (.inl k), some (.inr (.inr 48)), some (.inl j)]) (st' := [.inr (.inr 48), .inl k, .inr (.inr o)]) rfl ?_
      refine jw_W_gf rfl rfl rfl ?_
      show jw_W (js_S n) _ md_138 34 [some (.inr (.inr 13)), some (.inl k), some (.inr (.inr 48)), some (.inl j)] [.inr (.inr 49), .inl k, .inr (.inr o)] σ2 _
      refine jw_W_n 1 (i' := 35) (ls' := [some (.inr (.inr 13)), some (.inl k), some (.inr (.inr 48)), some (.inl j)]) (st' := [.inl j, .inr (.inr 49), .inl k, .inr (.inr o)]) rfl ?_
      refine jw_W_ia rfl rfl (by omega) (by omega) (by omega) ?_
      show jw_W (js_S n) _ md_138 36 [some (.inr (.inr 13)), some (.inl k), some (.inr (.inr 48)), some (.inl j)] [.inl (σ2 49 j), .inl k, .inr (.inr o)] σ2 _
      refine jw_W_n 1 (i' := 37) (ls' := [some (.inr (.inr 13)), some (.inl k), some (.inr (.inr 48)), some (.inl j)]) (st' := [.inr (.inr 48), .inl (σ2 49 j), .inl k, .inr (.inr o)]) rfl ?_
      refine jw_W_gf rfl rfl rfl ?_
      show jw_W (js_S n) _ md_138 38 [some (.inr (.inr 13)), some (.inl k), some (.inr (.inr 48)), some (.inl j)] [.inr (.inr 50), .inl (σ2 49 j), .inl k, .inr (.inr o)] σ2 _
      refine jw_W_n 1 (i' := 39) (ls' := [some (.inr (.inr 13)), some (.inl k), some (.inr (.inr 48)), some (.inl j)]) (st' := [.inl j, .inr (.inr 50), .inl (σ2 49 j), .inl k, .inr (.inr o)]) rfl ?_
      refine jw_W_ia rfl rfl (by omega) (by omega) (by omega) ?_
      show jw_W (js_S n) _ md_138 40 [some (.inr (.inr 13)), some (.inl k), some (.inr (.inr 48)), some (.inl j)] [.inl (σ2 50 j), .inl (σ2 49 j), .inl k, .inr (.inr o)] σ2 _
      refine jw_W_n 1 (i' := 41) (ls' := [some (.inr (.inr 13)), some (.inl k), some (.inr (.inr 48)), some (.inl j)]) (st' := [.inr (.inr 48), .inl (σ2 50 j), .inl (σ2 49 j), .inl k, .inr (.inr o)]) rfl ?_
      refine jw_W_gf rfl rfl rfl ?_
      show jw_W (js_S n) _ md_138 42 [some (.inr (.inr 13)), some (.inl k), some (.inr (.inr 48)), some (.inl j)] [.inr (.inr 51), .inl (σ2 50 j), .inl (σ2 49 j), .inl k, .inr (.inr o)] σ2 _
      refine jw_W_n 1 (i' := 43) (ls' := [some (.inr (.inr 13)), some (.inl k), some (.inr (.inr 48)), some (.inl j)]) (st' := [.inl j, .inr (.inr 51), .inl (σ2 50 j), .inl (σ2 49 j), .inl k, .inr (.inr o)]) rfl ?_
      refine jw_W_ia rfl rfl (by omega) (by omega) (by omega) ?_
      show jw_W (js_S n) _ md_138 44 [some (.inr (.inr 13)), some (.inl k), some (.inr (.inr 48)), some (.inl j)] [.inl (σ2 51 j), .inl (σ2 50 j), .inl (σ2 49 j), .inl k, .inr (.inr o)] σ2 _
      refine jw_W_n 1 (i' := 45) (ls' := [some (.inr (.inr 13)), some (.inl k), some (.inr (.inr 48)), some (.inl j)]) (st' := [.inr (.inr 48), .inl (σ2 51 j), .inl (σ2 50 j), .inl (σ2 49 j), .inl k, .inr (.inr o)]) rfl ?_
      refine jw_W_gf rfl rfl rfl ?_
      show jw_W (js_S n) _ md_138 46 [some (.inr (.inr 13)), some (.inl k), some (.inr (.inr 48)), some (.inl j)] [.inr (.inr 52), .inl (σ2 51 j), .inl (σ2 50 j), .inl (σ2 49 j), .inl k, .inr (.inr o)] σ2 _
      refine jw_W_n 1 (i' := 47) (ls' := [some (.inr (.inr 13)), some (.inl k), some (.inr (.inr 48)), some (.inl j)]) (st' := [.inl j, .inr (.inr 52), .inl (σ2 51 j), .inl (σ2 50 j), .inl (σ2 49 j), .inl k, .inr (.inr o)]) rfl ?_
      refine jw_W_ia rfl rfl (by omega) (by omega) (by omega) ?_
      show jw_W (js_S n) _ md_138 48 [some (.inr (.inr 13)), some (.inl k), some (.inr (.inr 48)), some (.inl j)] [.inl (σ2 52 j), .inl (σ2 51 j), .inl (σ2 50 j), .inl (σ2 49 j), .inl k, .inr (.inr o)] σ2 _
      refine jw_W_call (as := [.inr (.inr o), .inl k, .inl (σ2 49 j), .inl (σ2 50 j), .inl (σ2 51 j), .inl (σ2 52 j)]) (rest := []) rfl rfl rfl rfl (Nat.le_of_ble_eq_true rfl) (.inr (jx_rc hp.2.1)) (jx_holds hp hP2 k0 (by omega) (hbn j j0 (by omega))) (by omega) ?_ rfl
      rintro r1 σz (⟨rfl, hs, hho⟩ | ⟨rfl, hs, hho⟩)
      · rw [hs]
        show jw_W (js_S n) _ md_138 49 [some (.inr (.inr 13)), some (.inl k), some (.inr (.inr 48)), some (.inl j)] [.inl 1] σ2 _
        refine jw_W_if rfl (by unfold jw_rg; omega) (fun hc2 => ?_) (fun hc2 => ?_)
        · clear hc2
          refine jw_W_n 2 (i' := 25) (ls' := [some (.inr (.inr 13)), some (.inl k), some (.inr (.inr 48)), some (.inl (j + 1))]) (st' := []) rfl ?_
          refine ih (by omega) (fun c c0 c1 => ?_)
          by_cases e : c = j
          · rw [e]
            exact hho
          · exact H c c0 (by omega)
        · exact absurd hc2 (show ¬ ¬ ((1 : Int) ≠ 0) by omega)
      · rw [hs]
        show jw_W (js_S n) _ md_138 49 [some (.inr (.inr 13)), some (.inl k), some (.inr (.inr 48)), some (.inl j)] [.inl 0] σ2 _
        refine jw_W_if rfl (by unfold jw_rg; omega) (fun hc3 => ?_) (fun hc3 => ?_)
        · exact absurd hc3 (show ¬ ((0 : Int) ≠ 0) by omega)
        · clear hc3
          refine jw_W_n 1 (i' := 51) (ls' := [some (.inr (.inr 13)), some (.inl k), some (.inr (.inr 48)), some (.inl j)]) (st' := [.inl 1]) rfl ?_
          refine jw_W_ir rfl ?_
          exact hY ⟨j, j0, by omega, hho⟩
theorem jx_row_pq {μ ν : jw_H} (h : jx_pq μ ν) {k : Int} (k0 : 0 ≤ k) (k1 : k < ν 103 5 + 2 * ν 103 3) (q3 : ν 103 3 ≤ 3) : jx_row μ k = jx_row ν k := by
  unfold jx_row
  rw [jx_pq_sn h k0, jx_pq_pf h k0 (by omega) (by omega), jx_pq_pf h k0 (by omega) (by omega), jx_pq_pf h k0 (by omega) (by omega), jx_pq_if h k0 k1 q3]
theorem jx_needed {n : Nat} {σ : jw_H} {o : Nat} {C : List (ge_R × Int)} (hK : jx_K n o C σ) {k : Int} (hk : jw_rg k) : jw_T (js_S n) 8 138 [.inr (.inr 13), .inl k] σ (fun r σ' => r = some (.inl (jm_nda σ k)) ∧ jx_fy σ σ') := by
  refine jw_T_of (D := 7) (M := mm_138) rfl (Nat.le_of_ble_eq_true rfl) (ls0 := [some (.inr (.inr 13)), some (.inl k), none, none]) rfl ?_ (by rintro _ _ ⟨rfl, -⟩; rfl)
  have hI := hK.1
  obtain ⟨hto, hfo, hp, hP, e0, e1, e2, hPm, hcb, c0, p0, -⟩ := jx_I0_x hI
  have ho := hp.1
  have hq := hP.1
  have hw := hP.2.1
  have hq2 := hP.2.2.1
  have hcn := hcb.1
  have hKN := hK.2.1
  have rhk := hk
  unfold jw_rg at rhk
  refine jw_W_n 1 (i' := 1) (ls' := [some (.inr (.inr 13)), some (.inl k), none, none]) (st' := [.inl k]) rfl ?_
  refine jw_W_if rfl (by unfold jw_rg; omega) (fun hc1 => ?_) (fun hc1 => ?_)
  · have hc1 : k < 0 := hc1
    refine jw_W_n 1 (i' := 8) (ls' := [some (.inr (.inr 13)), some (.inl k), none, none]) (st' := [.inl ((-1))]) rfl ?_
    refine jw_W_ir rfl ?_
    exact ⟨by unfold jm_nda; rw [if_pos (by omega)], jx_fy_rf _⟩
  · have hc1 : ¬ (k < 0) := hc1
    refine jw_W_n 2 (i' := 4) (ls' := [some (.inr (.inr 13)), some (.inl k), none, none]) (st' := [.inr (.inr 13), .inl k]) rfl ?_
    refine jw_W_gf rfl rfl rfl ?_
    show jw_W (js_S n) _ md_138 5 [some (.inr (.inr 13)), some (.inl k), none, none] [.inr (.inr ((σ 13 2).toNat)), .inl k] σ _
    rw [hto]
    refine jw_W_gf rfl hp.2.1 rfl ?_
    show jw_W (js_S n) _ md_138 6 [some (.inr (.inr 13)), some (.inl k), none, none] [.inl (σ o 2), .inl k] σ _
    refine jw_W_ic rfl (by unfold jw_rg; omega) (by unfold jw_rg; omega) (fun hc2 => ?_) (fun hc2 => ?_)
    · have hc2 : k < (σ o 2) := hc2
      refine jw_W_n 1 (i' := 10) (ls' := [some (.inr (.inr 13)), some (.inl k), none, none]) (st' := [.inr (.inr 13)]) rfl ?_
      refine jw_W_gf rfl rfl rfl ?_
      show jw_W (js_S n) _ md_138 11 [some (.inr (.inr 13)), some (.inl k), none, none] [.inr (.inr 47)] σ _
      refine jw_W_n 1 (i' := 12) (ls' := [some (.inr (.inr 13)), some (.inl k), none, none]) (st' := [.inr (.inr 13), .inr (.inr 47)]) rfl ?_
      refine jw_W_gf rfl rfl rfl ?_
      show jw_W (js_S n) _ md_138 13 [some (.inr (.inr 13)), some (.inl k), none, none] [.inr (.inr ((σ 13 2).toNat)), .inr (.inr 47)] σ _
      rw [hto]
      refine jw_W_n 2 (i' := 15) (ls' := [some (.inr (.inr 13)), some (.inl k), none, none]) (st' := [.inl ((-1)), .inl k, .inr (.inr o), .inr (.inr 47)]) rfl ?_
      refine jw_W_call (as := [.inr (.inr 47), .inr (.inr o), .inl k, .inl ((-1))]) (rest := []) rfl rfl rfl rfl (Nat.le_of_ble_eq_true rfl) (.inr rfl) (jx_fillK hK (by unfold jw_rg; omega) (by unfold jw_rg; omega)) (by omega) ?_ rfl
      rintro r1 σ1 ⟨rfl, H1⟩
      rw [← List.append_nil (jx_fL σ k (-1) (σ 103 5 + 2 * σ 103 3).toNat ++ jx_nx (σ 103 3))] at H1
      show jw_W (js_S n) _ md_138 16 [some (.inr (.inr 13)), some (.inl k), none, none] [] σ1 _
      refine jw_W_n 1 (i' := 17) (ls' := [some (.inr (.inr 13)), some (.inl k), none, none]) (st' := [.inr (.inr 13)]) rfl ?_
      refine jw_W_gf rfl rfl rfl ?_
      show jw_W (js_S n) _ md_138 18 [some (.inr (.inr 13)), some (.inl k), none, none] [.inr (.inr 47)] σ1 _
      refine jw_W_call (as := [.inr (.inr 47)]) (rest := []) rfl rfl rfl rfl (Nat.le_of_ble_eq_true rfl) (.inr rfl) (jx_findK hKN (wo := k) (ra := -1) (E := []) (by omega) (by omega) (fun r hr => by cases hr) (by simp) H1) (by omega) ?_ rfl
      rintro r1 σ2 ⟨rfl, hq1, P, p1, p2, p3, p4, p5⟩
      show jw_W (js_S n) _ md_138 19 [some (.inr (.inr 13)), some (.inl k), none, none] [] σ2 _
      refine jw_W_n 1 (i' := 20) (ls' := [some (.inr (.inr 13)), some (.inl k), none, none]) (st' := [.inr (.inr 13)]) rfl ?_
      refine jw_W_gf rfl rfl rfl ?_
      show jw_W (js_S n) _ md_138 21 [some (.inr (.inr 13)), some (.inl k), none, none] [.inr (.inr 47)] σ2 _
      refine jw_W_gf rfl rfl rfl ?_
      show jw_W (js_S n) _ md_138 22 [some (.inr (.inr 13)), some (.inl k), none, none] [.inr (.inr 48)] σ2 _
      refine jw_W_n 3 (i' := 25) (ls' := [some (.inr (.inr 13)), some (.inl k), some (.inr (.inr 48)), some (.inl 0)]) (st' := []) rfl ?_
      have fo := fun (c : Nat) (h1 : o ≤ c) (h2 : c ≤ o + 5) => hq1 c (by omega)
      have hpq := jx_pq_tr (jx_M_fr fo) hI.1.2.2.2
      have hto2 : (σ2 13 2).toNat = o := by rw [hq1 13 (by omega)]; exact hto
      have hm2 := p1.1
      have er : jx_row (jx_M σ2 o) k = jm_kr σ k 0 := by
        rw [← jx_row_kr hPm (by omega) (by omega)]
        exact jx_row_pq hpq (by omega) (by omega) (by omega)
      have hfr := jx_fy_q hq1
      refine jx_need_loop (o := o) (D := 7) (by omega) hto2 hp (jx_Pb_fr fo hP) (by omega) (by omega) (by rw [fo o (by omega) (by omega)]; omega) (fun j j0 j1 => ?_) (fun hy => ⟨?_, hfr⟩) (fun hn => ⟨?_, hfr⟩) (σ2 48 0).toNat (j := 0) (by omega) (by omega) (fun c c0 c1 => by omega)
      · rw [jx_prM hpq (by omega) (by omega) (by omega)]
        refine jx_pr_bd hPm (by omega) (by omega) ?_
        have hg := List.getElem?_eq_getElem (l := P) (i := j.toNat) (by omega)
        have e := p1.2 _ _ hg
        rw [Int.toNat_of_nonneg j0] at e
        rw [e]
        exact p4 _ (List.getElem_mem _)
      · rw [er] at hy
        obtain ⟨v, hv, hs⟩ := (jx_pl_ex p1 (C := fun v => ¬ ge_s (jm_kr σ k 0) v ≤ 0)).mp hy
        unfold jm_nda
        rw [if_neg (by omega), jx_b_1 ⟨v, by have := ((p5 v).mp hv).1; rw [List.nil_append] at this; exact this, by omega⟩]
      · rw [er] at hn
        unfold jm_nda
        rw [if_neg (by omega), jx_b_0 (fun hh => ?_)]
        obtain ⟨v, h1, h2, h3⟩ := jm_nd_pp hh
        obtain ⟨j, j0, j1, h4⟩ := (jx_pl_ex p1 (C := fun v => 0 < ge_s (jm_kr σ k 0) v)).mpr ⟨v, (p5 v).mpr ⟨by rw [List.nil_append]; exact h1, h2⟩, h3⟩
        have := hn j j0 j1
        omega
    · have hc2 : ¬ (k < (σ o 2)) := hc2
      refine jw_W_n 1 (i' := 8) (ls' := [some (.inr (.inr 13)), some (.inl k), none, none]) (st' := [.inl ((-1))]) rfl ?_
      refine jw_W_ir rfl ?_
      exact ⟨by unfold jm_nda; rw [if_pos (by omega)], jx_fy_rf _⟩
theorem jx_needs_loop {n : Nat} {σ0 : jw_H} {o : Nat} {C : List (ge_R × Int)} (hK0 : jx_K n o C σ0) : ∀ (f : Nat) {σ : jw_H} {k m : Int}, 0 ≤ k → k + f = σ0 103 5 → jx_fy σ0 σ → m = jx_cn (fun c => jm_nd σ0 c) k.toNat → jw_W (js_S n) 8 md_139 4 [some (.inr (.inr 13)), some (.inl m), some (.inl k)] [] σ (fun r σ' => r = some (.inl (jx_cn (fun c => jm_nd σ0 c) (σ0 103 5).toNat)) ∧ jx_fy σ0 σ')
  | f, σ, k, m, k0, hk, HZ, H => by
    have ih : ∀ {σ' : jw_H} {m' : Int}, k < σ0 103 5 → jx_fy σ0 σ' → m' = jx_cn (fun c => jm_nd σ0 c) (k + 1).toNat → jw_W (js_S n) 8 md_139 4 [some (.inr (.inr 13)), some (.inl m'), some (.inl (k + 1))] [] σ' (fun r σ' => r = some (.inl (jx_cn (fun c => jm_nd σ0 c) (σ0 103 5).toNat)) ∧ jx_fy σ0 σ') := by
      intro σ' m' h1 h2 h3
      match f, hk with
      | 0, hk => omega
      | f + 1, hk => exact jx_needs_loop hK0 f (by omega) (by omega) h2 h3
    have hP0 := hK0.2.1.1.1
    have hme := jx_fx_me (jx_fy_x HZ)
    have hK := jx_K_y HZ hK0
    have e5 : σ 103 5 = σ0 103 5 := by rw [hme 103 (by omega)]
    have hI := hK.1
    obtain ⟨hto, hfo, hp, hP, e0, e1, e2, hPm, hcb, c0, p0, -⟩ := jx_I0_x hI
    have ho := hp.1
    have hq := hP.1
    have hw := hP.2.1
    have hq2 := hP.2.2.1
    have hcn := hcb.1
    refine jw_W_n 2 (i' := 6) (ls' := [some (.inr (.inr 13)), some (.inl m), some (.inl k)]) (st' := [.inr (.inr 13), .inl k]) rfl ?_
    refine jw_W_gf rfl rfl rfl ?_
    show jw_W (js_S n) _ md_139 7 [some (.inr (.inr 13)), some (.inl m), some (.inl k)] [.inr (.inr ((σ 13 2).toNat)), .inl k] σ _
    rw [hto]
    refine jw_W_gf rfl hp.2.1 rfl ?_
    show jw_W (js_S n) _ md_139 8 [some (.inr (.inr 13)), some (.inl m), some (.inl k)] [.inl (σ o 2), .inl k] σ _
    refine jw_W_ic rfl (by unfold jw_rg; omega) (by unfold jw_rg; omega) (fun hc1 => ?_) (fun hc1 => ?_)
    · have hc1 : k ≥ (σ o 2) := hc1
      refine jw_W_n 1 (i' := 18) (ls' := [some (.inr (.inr 13)), some (.inl m), some (.inl k)]) (st' := [.inl m]) rfl ?_
      refine jw_W_ir rfl ?_
      have hkl : k = σ0 103 5 := by omega
      subst hkl
      exact ⟨by rw [H], HZ⟩
    · have hc1 : ¬ (k ≥ (σ o 2)) := hc1
      refine jw_W_n 3 (i' := 12) (ls' := [some (.inr (.inr 13)), some (.inl m), some (.inl k)]) (st' := [.inl k, .inr (.inr 13), .inl m]) rfl ?_
      refine jw_W_call (as := [.inr (.inr 13), .inl k]) (rest := [.inl m]) rfl rfl rfl rfl (Nat.le_of_ble_eq_true rfl) (.inr rfl) (jx_needed hK (by unfold jw_rg; omega)) (by omega) ?_ rfl
      rintro r1 σ1 ⟨rfl, hf⟩
      have HZ1 := jx_fy_tr HZ hf
      show jw_W (js_S n) _ md_139 13 [some (.inr (.inr 13)), some (.inl m), some (.inl k)] [.inl (jm_nda σ k), .inl m] σ1 _
      refine jw_W_n 4 (i' := 4) (ls' := [some (.inr (.inr 13)), some (.inl (m + (jm_nda σ k))), some (.inl (k + 1))]) (st' := []) rfl ?_
      exact ih (by omega) HZ1 (by
        rw [jm_nda_me hme hP0]
        unfold jm_nda
        rw [if_neg (by omega)]
        by_cases hc : jm_nd σ0 k
        · rw [jx_b_1 hc]
          exact jx_cn_yes k0 H hc
        · rw [jx_b_0 hc, Int.add_zero]
          exact jx_cn_no k0 H hc)
theorem jx_neededKeeps {n : Nat} {σ : jw_H} {o : Nat} {C : List (ge_R × Int)} (hK : jx_K n o C σ)  : jw_T (js_S n) 9 139 [.inr (.inr 13)] σ (fun r σ' => r = some (.inl (jx_cn (fun c => jm_nd σ c) (σ 103 5).toNat)) ∧ jx_fy σ σ') := by
  refine jw_T_of (D := 8) (M := mm_139) rfl (Nat.le_of_ble_eq_true rfl) (ls0 := [some (.inr (.inr 13)), none, none]) rfl ?_ (by rintro _ _ ⟨rfl, -⟩; rfl)
  have hI := hK.1
  obtain ⟨hto, hfo, hp, hP, e0, e1, e2, hPm, hcb, c0, p0, -⟩ := jx_I0_x hI
  have ho := hp.1
  have hq := hP.1
  have hw := hP.2.1
  have hq2 := hP.2.2.1
  have hcn := hcb.1
  refine jw_W_n 4 (i' := 4) (ls' := [some (.inr (.inr 13)), some (.inl 0), some (.inl 0)]) (st' := []) rfl ?_
  exact jx_needs_loop hK (σ 103 5).toNat (k := 0) (m := 0) (by omega) (by omega) (jx_fy_rf σ) rfl

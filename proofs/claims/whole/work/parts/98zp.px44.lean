/-! ===== better and gain of the class, the code ===== -/
theorem jx_wr_no {n : Nat} {σ σ0 : jw_H} {o : Nat} {C : List (ge_R × Int)} (hI : jx_I0 n σ o C) {k x y z : Int} (k0 : 0 ≤ k) (k1 : k < σ 103 4) (eW : jm_W σ k = jm_W σ0 k) : jx_wr (jx_M σ o) k (σ (o + 1) (3 * k) * x + σ (o + 1) (3 * k + 1) * y + σ (o + 1) (3 * k + 2) * z) = ge_no (jm_W σ0 ((k.toNat : Nat) : Int)) (x, y, z, 1) := by
  rw [Int.toNat_of_nonneg k0]
  unfold jx_wr ge_no
  have eG := (jx_I0_W hI k0 k1).1
  rw [jx_pq_W hI.1.2.2.2 k0 k1, eW]
  rw [eW] at eG
  rw [← eG]
  rfl
theorem jx_bp_loop {n : Nat} {σ0 : jw_H} {o : Nat} {C : List (ge_R × Int)} {D : Nat} {Q : Option jw_V → jw_H → Prop} (hD : 4 ≤ D) (hK0 : jx_K n o C σ0) {x y z : Int} (hQ : ∀ {σ : jw_H} {u v : Option jw_V}, jx_bs σ0 ((jx_fL σ0 (-1) (-1) (σ0 103 5 + 2 * σ0 103 3).toNat ++ jx_nx (σ0 103 3)) ++ jx_El σ0 (x, y, z, 1) (σ0 103 4).toNat) σ → jw_W (js_S n) D md_136 65 [some (.inr (.inr 13)), some (.inl x), some (.inl y), some (.inl z), some (.inl (σ0 103 4)), u, v] [] σ Q) : ∀ (f : Nat) {σ : jw_H} {k : Int} {u v : Option jw_V}, 0 ≤ k → k + f = σ0 103 4 → jx_bs σ0 ((jx_fL σ0 (-1) (-1) (σ0 103 5 + 2 * σ0 103 3).toNat ++ jx_nx (σ0 103 3)) ++ jx_El σ0 (x, y, z, 1) k.toNat) σ → jw_W (js_S n) D md_136 19 [some (.inr (.inr 13)), some (.inl x), some (.inl y), some (.inl z), some (.inl k), u, v] [] σ Q
  | f, σ, k, u, v, k0, hk, H => by
    have ih : ∀ {σ' : jw_H} {u' v' : Option jw_V}, k < σ0 103 4 → jx_bs σ0 ((jx_fL σ0 (-1) (-1) (σ0 103 5 + 2 * σ0 103 3).toNat ++ jx_nx (σ0 103 3)) ++ jx_El σ0 (x, y, z, 1) (k + 1).toNat) σ' → jw_W (js_S n) D md_136 19 [some (.inr (.inr 13)), some (.inl x), some (.inl y), some (.inl z), some (.inl (k + 1)), u', v'] [] σ' Q := by
      intro σ' u' v' h1 h2
      match f, hk with
      | 0, hk => omega
      | f + 1, hk => exact jx_bp_loop hD hK0 hQ f (by omega) (by omega) h2
    have hfb := jx_fb_y H.1
    have hK := jx_K_y hfb hK0
    have hme := jx_fx_me (jx_fy_x hfb)
    have e103 := hme 103 (by omega)
    have e4 : σ 103 4 = σ0 103 4 := by rw [e103]
    have eW : jm_W σ k = jm_W σ0 k := by unfold jm_W; rw [hme 104 (by omega)]
    have hlen := H.2.1
    have hl1 := jx_fL_len σ0 (-1) (-1) (σ0 103 5 + 2 * σ0 103 3).toNat
    have hl2 : (jx_nx (σ0 103 3)).length ≤ 2 := by
      unfold jx_nx
      split
      · simp
      · split <;> simp
    have hl3 : (jx_El σ0 (x, y, z, 1) k.toNat).length = k.toNat := by
      unfold jx_El
      rw [List.length_map, List.length_range]
    rw [List.length_append, List.length_append, hl3] at hlen
    have hP0 := hK0.2.1.1.1
    have hk0 := hP0.2.2.1
    have hq0 := hP0.1
    have hw0 := hP0.2.1
    have hI := hK.1
    obtain ⟨hto, hfo, hp, hP, e0, e1, e2, hPm, hcb, c0, p0, -⟩ := jx_I0_x hI
    have ho := hp.1
    have hq := hP.1
    have hw := hP.2.1
    have hq2 := hP.2.2.1
    have hcn := hcb.1
    refine jw_W_n 2 (i' := 21) (ls' := [some (.inr (.inr 13)), some (.inl x), some (.inl y), some (.inl z), some (.inl k), u, v]) (st' := [.inr (.inr 13), .inl k]) rfl ?_
    refine jw_W_gf rfl rfl rfl ?_
    show jw_W (js_S n) _ md_136 22 [some (.inr (.inr 13)), some (.inl x), some (.inl y), some (.inl z), some (.inl k), u, v] [.inr (.inr ((σ 13 2).toNat)), .inl k] σ _
    rw [hto]
    refine jw_W_gf rfl hp.2.1 rfl ?_
    show jw_W (js_S n) _ md_136 23 [some (.inr (.inr 13)), some (.inl x), some (.inl y), some (.inl z), some (.inl k), u, v] [.inl (σ o 1), .inl k] σ _
    refine jw_W_ic rfl (by unfold jw_rg; omega) (by unfold jw_rg; omega) (fun hc1 => ?_) (fun hc1 => ?_)
    · have hc1 : k ≥ (σ o 1) := hc1
      have hkl : k = σ0 103 4 := by omega
      subst hkl
      exact hQ H
    · have hc1 : ¬ (k ≥ (σ o 1)) := hc1
      refine jw_W_n 5 (i' := 29) (ls' := [some (.inr (.inr 13)), some (.inl x), some (.inl y), some (.inl z), some (.inl k), some (.inl (3 * k)), v]) (st' := [.inr (.inr 13)]) rfl ?_
      refine jw_W_gf rfl rfl rfl ?_
      show jw_W (js_S n) _ md_136 30 [some (.inr (.inr 13)), some (.inl x), some (.inl y), some (.inl z), some (.inl k), some (.inl (3 * k)), v] [.inr (.inr ((σ 13 2).toNat))] σ _
      rw [hto]
      refine jw_W_gf rfl hp.2.1 rfl ?_
      show jw_W (js_S n) _ md_136 31 [some (.inr (.inr 13)), some (.inl x), some (.inl y), some (.inl z), some (.inl k), some (.inl (3 * k)), v] [.inr (.inr (o + 1))] σ _
      refine jw_W_n 1 (i' := 32) (ls' := [some (.inr (.inr 13)), some (.inl x), some (.inl y), some (.inl z), some (.inl k), some (.inl (3 * k)), v]) (st' := [.inl (3 * k), .inr (.inr (o + 1))]) rfl ?_
      refine jw_W_ia rfl hp.2.2.1 (by omega) (by omega) (by omega) ?_
      show jw_W (js_S n) _ md_136 33 [some (.inr (.inr 13)), some (.inl x), some (.inl y), some (.inl z), some (.inl k), some (.inl (3 * k)), v] [.inl (σ (o + 1) (3 * k))] σ _
      refine jw_W_n 3 (i' := 36) (ls' := [some (.inr (.inr 13)), some (.inl x), some (.inl y), some (.inl z), some (.inl k), some (.inl (3 * k)), v]) (st' := [.inr (.inr 13), .inl ((σ (o + 1) (3 * k)) * x)]) rfl ?_
      refine jw_W_gf rfl rfl rfl ?_
      show jw_W (js_S n) _ md_136 37 [some (.inr (.inr 13)), some (.inl x), some (.inl y), some (.inl z), some (.inl k), some (.inl (3 * k)), v] [.inr (.inr ((σ 13 2).toNat)), .inl ((σ (o + 1) (3 * k)) * x)] σ _
      rw [hto]
      refine jw_W_gf rfl hp.2.1 rfl ?_
      show jw_W (js_S n) _ md_136 38 [some (.inr (.inr 13)), some (.inl x), some (.inl y), some (.inl z), some (.inl k), some (.inl (3 * k)), v] [.inr (.inr (o + 1)), .inl ((σ (o + 1) (3 * k)) * x)] σ _
      refine jw_W_n 3 (i' := 41) (ls' := [some (.inr (.inr 13)), some (.inl x), some (.inl y), some (.inl z), some (.inl k), some (.inl (3 * k)), v]) (st' := [.inl ((3 * k) + 1), .inr (.inr (o + 1)), .inl ((σ (o + 1) (3 * k)) * x)]) rfl ?_
      refine jw_W_ia rfl hp.2.2.1 (by omega) (by omega) (by omega) ?_
      show jw_W (js_S n) _ md_136 42 [some (.inr (.inr 13)), some (.inl x), some (.inl y), some (.inl z), some (.inl k), some (.inl (3 * k)), v] [.inl (σ (o + 1) ((3 * k) + 1)), .inl ((σ (o + 1) (3 * k)) * x)] σ _
      refine jw_W_n 4 (i' := 46) (ls' := [some (.inr (.inr 13)), some (.inl x), some (.inl y), some (.inl z), some (.inl k), some (.inl (3 * k)), v]) (st' := [.inr (.inr 13), .inl (((σ (o + 1) (3 * k)) * x) + ((σ (o + 1) ((3 * k) + 1)) * y))]) rfl ?_
      refine jw_W_gf rfl rfl rfl ?_
      show jw_W (js_S n) _ md_136 47 [some (.inr (.inr 13)), some (.inl x), some (.inl y), some (.inl z), some (.inl k), some (.inl (3 * k)), v] [.inr (.inr ((σ 13 2).toNat)), .inl (((σ (o + 1) (3 * k)) * x) + ((σ (o + 1) ((3 * k) + 1)) * y))] σ _
      rw [hto]
      refine jw_W_gf rfl hp.2.1 rfl ?_
      show jw_W (js_S n) _ md_136 48 [some (.inr (.inr 13)), some (.inl x), some (.inl y), some (.inl z), some (.inl k), some (.inl (3 * k)), v] [.inr (.inr (o + 1)), .inl (((σ (o + 1) (3 * k)) * x) + ((σ (o + 1) ((3 * k) + 1)) * y))] σ _
      refine jw_W_n 3 (i' := 51) (ls' := [some (.inr (.inr 13)), some (.inl x), some (.inl y), some (.inl z), some (.inl k), some (.inl (3 * k)), v]) (st' := [.inl ((3 * k) + 2), .inr (.inr (o + 1)), .inl (((σ (o + 1) (3 * k)) * x) + ((σ (o + 1) ((3 * k) + 1)) * y))]) rfl ?_
      refine jw_W_ia rfl hp.2.2.1 (by omega) (by omega) (by omega) ?_
      show jw_W (js_S n) _ md_136 52 [some (.inr (.inr 13)), some (.inl x), some (.inl y), some (.inl z), some (.inl k), some (.inl (3 * k)), v] [.inl (σ (o + 1) ((3 * k) + 2)), .inl (((σ (o + 1) (3 * k)) * x) + ((σ (o + 1) ((3 * k) + 1)) * y))] σ _
      refine jw_W_n 5 (i' := 57) (ls' := [some (.inr (.inr 13)), some (.inl x), some (.inl y), some (.inl z), some (.inl k), some (.inl (3 * k)), some (.inl ((((σ (o + 1) (3 * k)) * x) + ((σ (o + 1) ((3 * k) + 1)) * y)) + ((σ (o + 1) ((3 * k) + 2)) * z)))]) (st' := [.inr (.inr 13)]) rfl ?_
      refine jw_W_gf rfl rfl rfl ?_
      show jw_W (js_S n) _ md_136 58 [some (.inr (.inr 13)), some (.inl x), some (.inl y), some (.inl z), some (.inl k), some (.inl (3 * k)), some (.inl ((((σ (o + 1) (3 * k)) * x) + ((σ (o + 1) ((3 * k) + 1)) * y)) + ((σ (o + 1) ((3 * k) + 2)) * z)))] [.inr (.inr 47)] σ _
      refine jw_W_n 1 (i' := 59) (ls' := [some (.inr (.inr 13)), some (.inl x), some (.inl y), some (.inl z), some (.inl k), some (.inl (3 * k)), some (.inl ((((σ (o + 1) (3 * k)) * x) + ((σ (o + 1) ((3 * k) + 1)) * y)) + ((σ (o + 1) ((3 * k) + 2)) * z)))]) (st' := [.inr (.inr 13), .inr (.inr 47)]) rfl ?_
      refine jw_W_gf rfl rfl rfl ?_
      show jw_W (js_S n) _ md_136 60 [some (.inr (.inr 13)), some (.inl x), some (.inl y), some (.inl z), some (.inl k), some (.inl (3 * k)), some (.inl ((((σ (o + 1) (3 * k)) * x) + ((σ (o + 1) ((3 * k) + 1)) * y)) + ((σ (o + 1) ((3 * k) + 2)) * z)))] [.inr (.inr ((σ 13 2).toNat)), .inr (.inr 47)] σ _
      rw [hto]
      refine jw_W_n 2 (i' := 62) (ls' := [some (.inr (.inr 13)), some (.inl x), some (.inl y), some (.inl z), some (.inl k), some (.inl (3 * k)), some (.inl ((((σ (o + 1) (3 * k)) * x) + ((σ (o + 1) ((3 * k) + 1)) * y)) + ((σ (o + 1) ((3 * k) + 2)) * z)))]) (st' := [.inl ((((σ (o + 1) (3 * k)) * x) + ((σ (o + 1) ((3 * k) + 1)) * y)) + ((σ (o + 1) ((3 * k) + 2)) * z)), .inl k, .inr (.inr o), .inr (.inr 47)]) rfl ?_
      refine jw_W_call (as := [.inr (.inr 47), .inr (.inr o), .inl k, .inl ((((σ (o + 1) (3 * k)) * x) + ((σ (o + 1) ((3 * k) + 1)) * y)) + ((σ (o + 1) ((3 * k) + 2)) * z))]) (rest := []) rfl rfl rfl rfl (Nat.le_of_ble_eq_true rfl) (.inr rfl) (jx_boundWish hp k0 (by omega) (by omega) (by omega)) (by omega) ?_ rfl
      rintro r1 σ1 ⟨rfl, hs⟩
      have hwr := jx_wr_no (x := x) (y := y) (z := z) hI k0 (show k < σ 103 4 by omega) eW
      have hz := jx_bs_s (jx_wr (jx_M σ o) k ((((σ (o + 1) (3 * k)) * x) + ((σ (o + 1) ((3 * k) + 1)) * y)) + ((σ (o + 1) ((3 * k) + 2)) * z))) H
      rw [hwr] at hz hs
      rw [← hs, List.append_assoc, ← jx_El_s] at hz
      show jw_W (js_S n) _ md_136 63 [some (.inr (.inr 13)), some (.inl x), some (.inl y), some (.inl z), some (.inl k), some (.inl (3 * k)), some (.inl ((((σ (o + 1) (3 * k)) * x) + ((σ (o + 1) ((3 * k) + 1)) * y)) + ((σ (o + 1) ((3 * k) + 2)) * z)))] [] σ1 _
      refine jw_W_n 2 (i' := 19) (ls' := [some (.inr (.inr 13)), some (.inl x), some (.inl y), some (.inl z), some (.inl (k + 1)), some (.inl (3 * k)), some (.inl ((((σ (o + 1) (3 * k)) * x) + ((σ (o + 1) ((3 * k) + 1)) * y)) + ((σ (o + 1) ((3 * k) + 2)) * z)))]) (st' := []) rfl ?_
      refine ih (by omega) ?_
      rw [show (k + 1).toNat = k.toNat + 1 by omega]
      exact hz
theorem jx_betterPoint {n : Nat} {σ : jw_H} {o : Nat} {C : List (ge_R × Int)} (hK : jx_K n o C σ) {x y z : Int} (hip : jm_ip σ x y z) : jw_T (js_S n) 9 136 [.inr (.inr 13), .inl x, .inl y, .inl z] σ (fun r σ' => (r = some (.inl (-1)) ∧ jx_fy σ σ' ∧ ¬ ge_F (jm_RR (σ 103 3) (jm_bA σ)) (x, y, z, 1)) ∨ ∃ b, r = some (.inl b) ∧ jx_fy σ σ' ∧ ge_F (jm_RR (σ 103 3) (jm_bA σ)) (x, y, z, 1) ∧ (0 ≤ b ∧ b < 64) ∧ jx_bd (jx_pt σ' 48 b) ∧ jm_bpt σ 1 (x, y, z, 1) (jx_pt σ' 48 b) ∧ jx_G σ' 100 0 = jm_gd3 σ 1 1 1) := by
  refine jw_T_of (D := 8) (M := mm_136) rfl (Nat.le_of_ble_eq_true rfl) (ls0 := [some (.inr (.inr 13)), some (.inl x), some (.inl y), some (.inl z), none, none, none]) rfl ?_ (by rintro _ _ (⟨rfl, -, -⟩ | ⟨_, rfl, -⟩) <;> rfl)
  have hI := hK.1
  obtain ⟨hto, hfo, hp, hP, e0, e1, e2, hPm, hcb, c0, p0, -⟩ := jx_I0_x hI
  have ho := hp.1
  have hq := hP.1
  have hw := hP.2.1
  have hq2 := hP.2.2.1
  have hcn := hcb.1
  have hKN := hK.2.1
  refine jw_W_n 1 (i' := 1) (ls' := [some (.inr (.inr 13)), some (.inl x), some (.inl y), some (.inl z), none, none, none]) (st' := [.inr (.inr 13)]) rfl ?_
  refine jw_W_gf rfl rfl rfl ?_
  show jw_W (js_S n) _ md_136 2 [some (.inr (.inr 13)), some (.inl x), some (.inl y), some (.inl z), none, none, none] [.inr (.inr ((σ 13 2).toNat))] σ _
  rw [hto]
  refine jw_W_n 4 (i' := 6) (ls' := [some (.inr (.inr 13)), some (.inl x), some (.inl y), some (.inl z), none, none, none]) (st' := [.inl 1, .inl z, .inl y, .inl x, .inr (.inr o)]) rfl ?_
  refine jw_W_call (as := [.inr (.inr o), .inl x, .inl y, .inl z, .inl 1]) (rest := []) rfl rfl rfl rfl (Nat.le_of_ble_eq_true rfl) (.inr (jx_rc hp.2.1)) (jx_allows hp hP (fun k k0 k1 => jx_pr_bd (jx_Pb_M hP) k0 k1 (jm_ip_bd hip))) (by omega) ?_ rfl
  rintro r1 σz (⟨rfl, hs, hal⟩ | ⟨rfl, hs, hal⟩)
  · rw [hs]
    have hF := (jx_ip_F hI hip).mp hal
    show jw_W (js_S n) _ md_136 7 [some (.inr (.inr 13)), some (.inl x), some (.inl y), some (.inl z), none, none, none] [.inl 1] σ _
    refine jw_W_if rfl (by unfold jw_rg; omega) (fun hc1 => ?_) (fun hc1 => ?_)
    · clear hc1
      refine jw_W_n 1 (i' := 11) (ls' := [some (.inr (.inr 13)), some (.inl x), some (.inl y), some (.inl z), none, none, none]) (st' := [.inr (.inr 13)]) rfl ?_
      refine jw_W_gf rfl rfl rfl ?_
      show jw_W (js_S n) _ md_136 12 [some (.inr (.inr 13)), some (.inl x), some (.inl y), some (.inl z), none, none, none] [.inr (.inr 47)] σ _
      refine jw_W_n 1 (i' := 13) (ls' := [some (.inr (.inr 13)), some (.inl x), some (.inl y), some (.inl z), none, none, none]) (st' := [.inr (.inr 13), .inr (.inr 47)]) rfl ?_
      refine jw_W_gf rfl rfl rfl ?_
      show jw_W (js_S n) _ md_136 14 [some (.inr (.inr 13)), some (.inl x), some (.inl y), some (.inl z), none, none, none] [.inr (.inr ((σ 13 2).toNat)), .inr (.inr 47)] σ _
      rw [hto]
      refine jw_W_n 2 (i' := 16) (ls' := [some (.inr (.inr 13)), some (.inl x), some (.inl y), some (.inl z), none, none, none]) (st' := [.inl ((-1)), .inl ((-1)), .inr (.inr o), .inr (.inr 47)]) rfl ?_
      refine jw_W_call (as := [.inr (.inr 47), .inr (.inr o), .inl ((-1)), .inl ((-1))]) (rest := []) rfl rfl rfl rfl (Nat.le_of_ble_eq_true rfl) (.inr rfl) (jx_fillK hK (by unfold jw_rg; omega) (by unfold jw_rg; omega)) (by omega) ?_ rfl
      rintro r1 σ1 ⟨rfl, H1⟩
      show jw_W (js_S n) _ md_136 17 [some (.inr (.inr 13)), some (.inl x), some (.inl y), some (.inl z), none, none, none] [] σ1 _
      refine jw_W_n 2 (i' := 19) (ls' := [some (.inr (.inr 13)), some (.inl x), some (.inl y), some (.inl z), some (.inl 0), none, none]) (st' := []) rfl ?_
      refine jx_bp_loop (D := 8) (by omega) hK (fun {σ4 u v} H4 => ?_) (σ 103 4).toNat (k := 0) (by omega) (by omega) (by show jx_bs σ (_ ++ jx_El σ (x, y, z, 1) 0) σ1; rw [show jx_El σ (x, y, z, 1) 0 = [] from rfl, List.append_nil]; exact H1)
      have hK4 := jx_K_y (jx_fb_y H4.1) hK
      refine jw_W_n 1 (i' := 66) (ls' := [some (.inr (.inr 13)), some (.inl x), some (.inl y), some (.inl z), some (.inl (σ 103 4)), u, v]) (st' := [.inr (.inr 13)]) rfl ?_
      refine jw_W_gf rfl rfl rfl ?_
      show jw_W (js_S n) _ md_136 67 [some (.inr (.inr 13)), some (.inl x), some (.inl y), some (.inl z), some (.inl (σ 103 4)), u, v] [.inr (.inr 47)] σ4 _
      refine jw_W_call (as := [.inr (.inr 47)]) (rest := []) rfl rfl rfl rfl (Nat.le_of_ble_eq_true rfl) (.inr rfl) (jx_findK hKN (wo := -1) (ra := -1) (E := jx_El σ (x, y, z, 1) (σ 103 4).toNat) (by omega) (by omega) (jx_El_rb hPm hip (by omega)) (by unfold jx_El; rw [List.length_map, List.length_range]; omega) H4) (by omega) ?_ rfl
      rintro r1 σ2 ⟨rfl, hq2, P, p1, p2, p3, p4, p5⟩
      have hK2 := jx_K_y (jx_fy_q hq2) hK
      have p0 := jx_bpt_0 hPm rfl hF p5
      show jw_W (js_S n) _ md_136 68 [some (.inr (.inr 13)), some (.inl x), some (.inl y), some (.inl z), some (.inl (σ 103 4)), u, v] [] σ2 _
      refine jw_W_n 4 (i' := 72) (ls' := [some (.inr (.inr 13)), some (.inl x), some (.inl y), some (.inl z), some (.inl (σ 103 4)), u, v]) (st' := [.inl 1, .inl 1, .inl 1, .inr (.inr 13)]) rfl ?_
      refine jw_W_call (as := [.inr (.inr 13), .inl 1, .inl 1, .inl 1]) (rest := []) rfl rfl rfl rfl (Nat.le_of_ble_eq_true rfl) (.inr rfl) (jx_aim hK2 (a := 1) (b := 1) (c := 1) (by unfold jm_wok; omega)) (by omega) ?_ rfl
      rintro r1 σ3 ⟨rfl, hgl⟩
      have hf3 := jx_fy_tr (jx_fy_q hq2) (jx_gl_y hgl)
      have eG : jx_G σ3 100 0 = jm_gd3 σ 1 1 1 := (jx_gl_G hgl).trans (jm_gd3_me (jx_fx_me (jx_fy_x (jx_fy_q hq2))) 1 1 1)
      have hGb := jm_gd3_Gb hPm (show jm_wok 1 1 1 by unfold jm_wok; omega)
      have e48 : ∀ c, 48 ≤ c → c ≤ 52 → σ3 c = σ2 c := fun c h1 h2 => hgl.1 c (by omega)
      have ept : ∀ i, jx_pt σ3 48 i = jx_pt σ2 48 i := fun i => by unfold jx_pt; rw [e48 (48 + 1) (by omega) (by omega), e48 (48 + 2) (by omega) (by omega), e48 (48 + 3) (by omega) (by omega), e48 (48 + 4) (by omega) (by omega)]
      have hp1 : jx_pl σ3 48 P := ⟨by rw [e48 48 (by omega) (by omega)]; exact p1.1, fun i x hx => by rw [ept]; exact p1.2 i x hx⟩
      have hp10 := hp1.1
      have hpb : jx_pb σ3 48 := ⟨by omega, fun i i0 i1 => by
        have hg := List.getElem?_eq_getElem (l := P) (i := i.toNat) (by omega)
        have e := hp1.2 _ _ hg
        rw [Int.toNat_of_nonneg i0] at e
        rw [e]
        exact p4 _ (List.getElem_mem _)⟩
      show jw_W (js_S n) _ md_136 73 [some (.inr (.inr 13)), some (.inl x), some (.inl y), some (.inl z), some (.inl (σ 103 4)), u, v] [] σ3 _
      refine jw_W_n 1 (i' := 74) (ls' := [some (.inr (.inr 13)), some (.inl x), some (.inl y), some (.inl z), some (.inl (σ 103 4)), u, v]) (st' := [.inr (.inr 13)]) rfl ?_
      refine jw_W_gf rfl rfl rfl ?_
      show jw_W (js_S n) _ md_136 75 [some (.inr (.inr 13)), some (.inl x), some (.inl y), some (.inl z), some (.inl (σ 103 4)), u, v] [.inr (.inr 47)] σ3 _
      refine jw_W_gf rfl rfl rfl ?_
      show jw_W (js_S n) _ md_136 76 [some (.inr (.inr 13)), some (.inl x), some (.inl y), some (.inl z), some (.inl (σ 103 4)), u, v] [.inr (.inr 48)] σ3 _
      refine jw_W_n 1 (i' := 77) (ls' := [some (.inr (.inr 13)), some (.inl x), some (.inl y), some (.inl z), some (.inl (σ 103 4)), u, v]) (st' := [.inr (.inr 13), .inr (.inr 48)]) rfl ?_
      refine jw_W_gf rfl rfl rfl ?_
      show jw_W (js_S n) _ md_136 78 [some (.inr (.inr 13)), some (.inl x), some (.inl y), some (.inl z), some (.inl (σ 103 4)), u, v] [.inr (.inr 100), .inr (.inr 48)] σ3 _
      refine jw_W_n 1 (i' := 79) (ls' := [some (.inr (.inr 13)), some (.inl x), some (.inl y), some (.inl z), some (.inl (σ 103 4)), u, v]) (st' := [.inl 0, .inr (.inr 100), .inr (.inr 48)]) rfl ?_
      refine jw_W_call (as := [.inr (.inr 48), .inr (.inr 100), .inl 0]) (rest := []) rfl rfl rfl rfl (Nat.le_of_ble_eq_true rfl) (.inr rfl) (jx_firstWithMost (a := 100) (len := 3) (f := 0) (jx_pp_48 n) rfl (by omega) (by omega) (by omega) (by rw [eG]; exact hGb) hpb) (by omega) ?_ rfl
      rintro r1 σz ⟨b, rfl, hs, hfb⟩
      rw [hs]
      rw [eG, hp10] at hfb
      obtain ⟨b0, b1, b2⟩ := jx_bpt (p := (x, y, z, 1)) hp1.2 p2 p4 p5 p0 hfb
      show jw_W (js_S n) _ md_136 80 [some (.inr (.inr 13)), some (.inl x), some (.inl y), some (.inl z), some (.inl (σ 103 4)), u, v] [.inl b] σ3 _
      refine jw_W_ir rfl ?_
      exact .inr ⟨b, rfl, hf3, hF, by omega, b1, b2, eG⟩
    · exact absurd hc1 (show ¬ ¬ ((1 : Int) ≠ 0) by omega)
  · rw [hs]
    show jw_W (js_S n) _ md_136 7 [some (.inr (.inr 13)), some (.inl x), some (.inl y), some (.inl z), none, none, none] [.inl 0] σ _
    refine jw_W_if rfl (by unfold jw_rg; omega) (fun hc2 => ?_) (fun hc2 => ?_)
    · exact absurd hc2 (show ¬ ((0 : Int) ≠ 0) by omega)
    · clear hc2
      refine jw_W_n 1 (i' := 9) (ls' := [some (.inr (.inr 13)), some (.inl x), some (.inl y), some (.inl z), none, none, none]) (st' := [.inl ((-1))]) rfl ?_
      refine jw_W_ir rfl ?_
      exact .inl ⟨rfl, jx_fy_rf σ, fun hh => hal ((jx_ip_F hI hip).mpr hh)⟩

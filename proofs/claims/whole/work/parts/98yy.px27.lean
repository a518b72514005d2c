/-! ===== faces that are efficient; the answers of face ===== -/
/-- an efficient face -/
def jm_gf (σ : jw_H) (k : Int) : Prop := jm_fc σ k ∧ ¬ jm_Ef σ (jm_sp σ k (σ 103 56).toNat)
theorem jm_sp_w {σ σ' : jw_H} (h1 : σ' 136 = σ 136) (h2 : ∀ i, jm_ct σ' i = jm_ct σ i) (k : Int) : ∀ j : Nat, jm_sp σ' k j = jm_sp σ k j
  | 0 => rfl
  | j + 1 => by
    unfold jm_sp
    rw [h1, h2, jm_sp_w h1 h2 k j]
theorem jm_gf_w {σ σ' : jw_H} (h1 : σ' 136 = σ 136) (h2 : ∀ i, jm_ct σ' i = jm_ct σ i) (h3 : σ' 103 3 = σ 103 3) (h4 : σ' 103 56 = σ 103 56) (pq : jx_pq σ' σ) (hP : jm_Pb σ) (k : Int) : (jm_fc σ' k ↔ jm_fc σ k) ∧ (jm_gf σ' k ↔ jm_gf σ k) := by
  have e : jm_fc σ' k ↔ jm_fc σ k := by
    unfold jm_fc
    rw [h1, h3, h4]
  refine ⟨e, ?_⟩
  unfold jm_gf
  rw [e, jx_pq_Ef pq hP, h4, jm_sp_w h1 h2]
theorem jm_gf_z {σ σ' : jw_H} (h : jm_fz σ σ') (hP : jm_Pb σ) (k : Int) : (jm_fc σ' k ↔ jm_fc σ k) ∧ (jm_gf σ' k ↔ jm_gf σ k) := jm_gf_w (h.1 136 (by omega) (by omega)) (jm_fz_ct h) (h.2.1 3 (by omega)) (h.2.1 56 (by omega)) (jm_fz_pq h) hP k
theorem jm_gf_me {σ σ' : jw_H} (h : jx_me σ σ') (hP : jm_Pb σ) (k : Int) : (jm_fc σ' k ↔ jm_fc σ k) ∧ (jm_gf σ' k ↔ jm_gf σ k) := jm_gf_w (h 136 (by omega)) (jx_me_ct h) (by rw [h 103 (by omega)]) (by rw [h 103 (by omega)]) (jx_me_pq h) hP k
theorem jm_gface_s {n : Nat} {σ : jw_H} {D : Nat} {k : Int} {Q : Option jw_V → jw_H → Prop} (hD : 1 ≤ D) {C : List (ge_R × Int)} (hKN : jm_KN σ C) (k0 : 0 ≤ k) (k1 : k < 20) (hQ : ∀ {x y z w : Int}, (x, y, z, w) = jm_sp σ k (σ 103 56).toNat → jw_W (js_S n) D md_276 57 [some (.inr (.inr 103)), some (.inl k), some (.inr (.inl x)), none, some (.inr (.inl y)), none, some (.inr (.inl z)), none, some (.inr (.inl w)), none, some (.inl (σ 103 56))] [] σ Q) : ∀ (f : Nat) {j x y z w : Int}, 0 ≤ j → j + f = σ 103 56 → (x, y, z, w) = jm_sp σ k j.toNat → jw_W (js_S n) D md_276 16 [some (.inr (.inr 103)), some (.inl k), some (.inr (.inl x)), none, some (.inr (.inl y)), none, some (.inr (.inl z)), none, some (.inr (.inl w)), none, some (.inl j)] [] σ Q
  | f, j, x, y, z, w, j0, hk, H => by
    have ih : ∀ {x' y' z' w' : Int}, j < σ 103 56 → (x', y', z', w') = jm_sp σ k (j + 1).toNat → jw_W (js_S n) D md_276 16 [some (.inr (.inr 103)), some (.inl k), some (.inr (.inl x')), none, some (.inr (.inl y')), none, some (.inr (.inl z')), none, some (.inr (.inl w')), none, some (.inl (j + 1))] [] σ Q := by
      intro x' y' z' w' h1 h2
      match f, hk with
      | 0, hk => omega
      | f + 1, hk => exact jm_gface_s hD hKN k0 k1 hQ f (by omega) (by omega) h2
    have hcb := (jm_kw_cbd hKN.1).2 σ (jm_fk_rf σ)
    have hcn := hcb.1
    have hPm := hKN.1.1
    have hqq := hPm.1
    have hww := hPm.2.1
    have hkk := hPm.2.2.1
    have hg57 := hKN.2.2.1.1
    have hg58 := hKN.2.2.2.1.1
    refine jw_W_n 2 (i' := 18) (ls' := [some (.inr (.inr 103)), some (.inl k), some (.inr (.inl x)), none, some (.inr (.inl y)), none, some (.inr (.inl z)), none, some (.inr (.inl w)), none, some (.inl j)]) (st' := [.inr (.inr 103), .inl j]) rfl ?_
    refine jw_W_gf rfl rfl rfl ?_
    show jw_W (js_S n) _ md_276 19 [some (.inr (.inr 103)), some (.inl k), some (.inr (.inl x)), none, some (.inr (.inl y)), none, some (.inr (.inl z)), none, some (.inr (.inl w)), none, some (.inl j)] [.inl (σ 103 56), .inl j] σ _
    refine jw_W_ic rfl (by unfold jw_rg; omega) (by unfold jw_rg; omega) (fun hc1 => ?_) (fun hc1 => ?_)
    · have hc1 : j ≥ (σ 103 56) := hc1
      have hkl : j = σ 103 56 := by omega
      subst hkl
      exact hQ H
    · have hc1 : ¬ (j ≥ (σ 103 56)) := hc1
      have htg := (jm_tg hKN j0 (show j < σ 103 56 by omega)).1
      refine jw_W_n 1 (i' := 21) (ls' := [some (.inr (.inr 103)), some (.inl k), some (.inr (.inl x)), none, some (.inr (.inl y)), none, some (.inr (.inl z)), none, some (.inr (.inl w)), none, some (.inl j)]) (st' := [.inr (.inr 103)]) rfl ?_
      refine jw_W_gf rfl rfl rfl ?_
      show jw_W (js_S n) _ md_276 22 [some (.inr (.inr 103)), some (.inl k), some (.inr (.inl x)), none, some (.inr (.inl y)), none, some (.inr (.inl z)), none, some (.inr (.inl w)), none, some (.inl j)] [.inr (.inr 136)] σ _
      refine jw_W_n 1 (i' := 23) (ls' := [some (.inr (.inr 103)), some (.inl k), some (.inr (.inl x)), none, some (.inr (.inl y)), none, some (.inr (.inl z)), none, some (.inr (.inl w)), none, some (.inl j)]) (st' := [.inl j, .inr (.inr 136)]) rfl ?_
      refine jw_W_ia rfl rfl (by omega) (by omega) (by omega) ?_
      show jw_W (js_S n) _ md_276 24 [some (.inr (.inr 103)), some (.inl k), some (.inr (.inl x)), none, some (.inr (.inl y)), none, some (.inr (.inl z)), none, some (.inr (.inl w)), none, some (.inl j)] [.inl (σ 136 j)] σ _
      refine jw_W_n 1 (i' := 25) (ls' := [some (.inr (.inr 103)), some (.inl k), some (.inr (.inl x)), none, some (.inr (.inl y)), none, some (.inr (.inl z)), none, some (.inr (.inl w)), none, some (.inl j)]) (st' := [.inl k, .inl (σ 136 j)]) rfl ?_
      refine jw_W_call (as := [.inl (σ 136 j), .inl k]) (rest := []) rfl rfl rfl rfl (Nat.le_of_ble_eq_true rfl) (.inl rfl) (jm_has htg.1 (by omega) k0 (by omega)) (by omega) ?_ rfl
      rintro r1 σz (⟨rfl, hs, hin⟩ | ⟨rfl, hs, hin⟩)
      · rw [hs]
        show jw_W (js_S n) _ md_276 26 [some (.inr (.inr 103)), some (.inl k), some (.inr (.inl x)), none, some (.inr (.inl y)), none, some (.inr (.inl z)), none, some (.inr (.inl w)), none, some (.inl j)] [.inl 1] σ _
        refine jw_W_if rfl (by unfold jw_rg; omega) (fun hc2 => ?_) (fun hc2 => ?_)
        · exact absurd hc2 (show ¬ ((1 : Int) = 0) by omega)
        · clear hc2
          refine jw_W_n 2 (i' := 29) (ls' := [some (.inr (.inr 103)), some (.inl k), some (.inr (.inl x)), none, some (.inr (.inl y)), none, some (.inr (.inl z)), none, some (.inr (.inl w)), none, some (.inl j)]) (st' := [.inr (.inr 103), .inr (.inl x)]) rfl ?_
          refine jw_W_gf rfl rfl rfl ?_
          show jw_W (js_S n) _ md_276 30 [some (.inr (.inr 103)), some (.inl k), some (.inr (.inl x)), none, some (.inr (.inl y)), none, some (.inr (.inl z)), none, some (.inr (.inl w)), none, some (.inl j)] [.inr (.inr 132), .inr (.inl x)] σ _
          refine jw_W_n 1 (i' := 31) (ls' := [some (.inr (.inr 103)), some (.inl k), some (.inr (.inl x)), none, some (.inr (.inl y)), none, some (.inr (.inl z)), none, some (.inr (.inl w)), none, some (.inl j)]) (st' := [.inl j, .inr (.inr 132), .inr (.inl x)]) rfl ?_
          refine jw_W_la rfl rfl (by omega) (by omega) (by omega) ?_
          show jw_W (js_S n) _ md_276 32 [some (.inr (.inr 103)), some (.inl k), some (.inr (.inl x)), none, some (.inr (.inl y)), none, some (.inr (.inl z)), none, some (.inr (.inl w)), none, some (.inl j)] [.inr (.inl (σ 132 j)), .inr (.inl x)] σ _
          refine jw_W_n 4 (i' := 36) (ls' := [some (.inr (.inr 103)), some (.inl k), some (.inr (.inl (x + (σ 132 j)))), none, some (.inr (.inl y)), none, some (.inr (.inl z)), none, some (.inr (.inl w)), none, some (.inl j)]) (st' := [.inr (.inr 103), .inr (.inl y)]) rfl ?_
          refine jw_W_gf rfl rfl rfl ?_
          show jw_W (js_S n) _ md_276 37 [some (.inr (.inr 103)), some (.inl k), some (.inr (.inl (x + (σ 132 j)))), none, some (.inr (.inl y)), none, some (.inr (.inl z)), none, some (.inr (.inl w)), none, some (.inl j)] [.inr (.inr 133), .inr (.inl y)] σ _
          refine jw_W_n 1 (i' := 38) (ls' := [some (.inr (.inr 103)), some (.inl k), some (.inr (.inl (x + (σ 132 j)))), none, some (.inr (.inl y)), none, some (.inr (.inl z)), none, some (.inr (.inl w)), none, some (.inl j)]) (st' := [.inl j, .inr (.inr 133), .inr (.inl y)]) rfl ?_
          refine jw_W_la rfl rfl (by omega) (by omega) (by omega) ?_
          show jw_W (js_S n) _ md_276 39 [some (.inr (.inr 103)), some (.inl k), some (.inr (.inl (x + (σ 132 j)))), none, some (.inr (.inl y)), none, some (.inr (.inl z)), none, some (.inr (.inl w)), none, some (.inl j)] [.inr (.inl (σ 133 j)), .inr (.inl y)] σ _
          refine jw_W_n 4 (i' := 43) (ls' := [some (.inr (.inr 103)), some (.inl k), some (.inr (.inl (x + (σ 132 j)))), none, some (.inr (.inl (y + (σ 133 j)))), none, some (.inr (.inl z)), none, some (.inr (.inl w)), none, some (.inl j)]) (st' := [.inr (.inr 103), .inr (.inl z)]) rfl ?_
          refine jw_W_gf rfl rfl rfl ?_
          show jw_W (js_S n) _ md_276 44 [some (.inr (.inr 103)), some (.inl k), some (.inr (.inl (x + (σ 132 j)))), none, some (.inr (.inl (y + (σ 133 j)))), none, some (.inr (.inl z)), none, some (.inr (.inl w)), none, some (.inl j)] [.inr (.inr 134), .inr (.inl z)] σ _
          refine jw_W_n 1 (i' := 45) (ls' := [some (.inr (.inr 103)), some (.inl k), some (.inr (.inl (x + (σ 132 j)))), none, some (.inr (.inl (y + (σ 133 j)))), none, some (.inr (.inl z)), none, some (.inr (.inl w)), none, some (.inl j)]) (st' := [.inl j, .inr (.inr 134), .inr (.inl z)]) rfl ?_
          refine jw_W_la rfl rfl (by omega) (by omega) (by omega) ?_
          show jw_W (js_S n) _ md_276 46 [some (.inr (.inr 103)), some (.inl k), some (.inr (.inl (x + (σ 132 j)))), none, some (.inr (.inl (y + (σ 133 j)))), none, some (.inr (.inl z)), none, some (.inr (.inl w)), none, some (.inl j)] [.inr (.inl (σ 134 j)), .inr (.inl z)] σ _
          refine jw_W_n 4 (i' := 50) (ls' := [some (.inr (.inr 103)), some (.inl k), some (.inr (.inl (x + (σ 132 j)))), none, some (.inr (.inl (y + (σ 133 j)))), none, some (.inr (.inl (z + (σ 134 j)))), none, some (.inr (.inl w)), none, some (.inl j)]) (st' := [.inr (.inr 103), .inr (.inl w)]) rfl ?_
          refine jw_W_gf rfl rfl rfl ?_
          show jw_W (js_S n) _ md_276 51 [some (.inr (.inr 103)), some (.inl k), some (.inr (.inl (x + (σ 132 j)))), none, some (.inr (.inl (y + (σ 133 j)))), none, some (.inr (.inl (z + (σ 134 j)))), none, some (.inr (.inl w)), none, some (.inl j)] [.inr (.inr 135), .inr (.inl w)] σ _
          refine jw_W_n 1 (i' := 52) (ls' := [some (.inr (.inr 103)), some (.inl k), some (.inr (.inl (x + (σ 132 j)))), none, some (.inr (.inl (y + (σ 133 j)))), none, some (.inr (.inl (z + (σ 134 j)))), none, some (.inr (.inl w)), none, some (.inl j)]) (st' := [.inl j, .inr (.inr 135), .inr (.inl w)]) rfl ?_
          refine jw_W_la rfl rfl (by omega) (by omega) (by omega) ?_
          show jw_W (js_S n) _ md_276 53 [some (.inr (.inr 103)), some (.inl k), some (.inr (.inl (x + (σ 132 j)))), none, some (.inr (.inl (y + (σ 133 j)))), none, some (.inr (.inl (z + (σ 134 j)))), none, some (.inr (.inl w)), none, some (.inl j)] [.inr (.inl (σ 135 j)), .inr (.inl w)] σ _
          refine jw_W_n 4 (i' := 16) (ls' := [some (.inr (.inr 103)), some (.inl k), some (.inr (.inl (x + (σ 132 j)))), none, some (.inr (.inl (y + (σ 133 j)))), none, some (.inr (.inl (z + (σ 134 j)))), none, some (.inr (.inl (w + (σ 135 j)))), none, some (.inl (j + 1))]) (st' := []) rfl ?_
          exact ih (by omega) (by rw [jm_sp_s j0, if_pos hin, ← H]; rfl)
      · rw [hs]
        show jw_W (js_S n) _ md_276 26 [some (.inr (.inr 103)), some (.inl k), some (.inr (.inl x)), none, some (.inr (.inl y)), none, some (.inr (.inl z)), none, some (.inr (.inl w)), none, some (.inl j)] [.inl 0] σ _
        refine jw_W_if rfl (by unfold jw_rg; omega) (fun hc3 => ?_) (fun hc3 => ?_)
        · clear hc3
          refine jw_W_n 2 (i' := 16) (ls' := [some (.inr (.inr 103)), some (.inl k), some (.inr (.inl x)), none, some (.inr (.inl y)), none, some (.inr (.inl z)), none, some (.inr (.inl w)), none, some (.inl (j + 1))]) (st' := []) rfl ?_
          exact ih (by omega) (by rw [jm_sp_s j0, if_neg hin]; exact H)
        · exact absurd hc3 (show ¬ ¬ ((0 : Int) = 0) by omega)
theorem jm_isGoodFace {n : Nat} {σ : jw_H} {C : List (ge_R × Int)} (hKN : jm_KN σ C) {k : Int} (k0 : 0 ≤ k) (k1 : k < 20)  : jw_T (js_S n) 7 276 [.inr (.inr 103), .inl k] σ (fun r σ' => ∃ v, r = some (.inl v) ∧ jm_fz σ σ' ∧ (v = 1 ∧ jm_gf σ k ∨ v = 0 ∧ ¬ jm_gf σ k)) := by
  refine jw_T_of (D := 6) (M := mm_276) rfl (Nat.le_of_ble_eq_true rfl) (ls0 := [some (.inr (.inr 103)), some (.inl k), none, none, none, none, none, none, none, none, none]) rfl ?_ (by rintro _ _ ⟨v, rfl, -, ⟨rfl, -⟩ | ⟨rfl, -⟩⟩ <;> rfl)
  have hcb := (jm_kw_cbd hKN.1).2 σ (jm_fk_rf σ)
  have hcn := hcb.1
  have hPm := hKN.1.1
  have hqq := hPm.1
  have hww := hPm.2.1
  have hkk := hPm.2.2.1
  have hg57 := hKN.2.2.1.1
  have hg58 := hKN.2.2.2.1.1
  refine jw_W_n 2 (i' := 2) (ls' := [some (.inr (.inr 103)), some (.inl k), none, none, none, none, none, none, none, none, none]) (st' := [.inl k, .inr (.inr 103)]) rfl ?_
  refine jw_W_call (as := [.inr (.inr 103), .inl k]) (rest := []) rfl rfl rfl rfl (Nat.le_of_ble_eq_true rfl) (.inr rfl) (jm_isFace hKN k0 k1) (by omega) ?_ rfl
  rintro r1 σz (⟨rfl, hs, hfc⟩ | ⟨rfl, hs, hfc⟩)
  · rw [hs]
    show jw_W (js_S n) _ md_276 3 [some (.inr (.inr 103)), some (.inl k), none, none, none, none, none, none, none, none, none] [.inl 1] σ _
    refine jw_W_if rfl (by unfold jw_rg; omega) (fun hc1 => ?_) (fun hc1 => ?_)
    · clear hc1
      refine jw_W_n 10 (i' := 16) (ls' := [some (.inr (.inr 103)), some (.inl k), some (.inr (.inl 0)), none, some (.inr (.inl 0)), none, some (.inr (.inl 0)), none, some (.inr (.inl 0)), none, some (.inl 0)]) (st' := []) rfl ?_
      refine jm_gface_s (D := 6) (by omega) hKN k0 k1 (fun {x y z w} H4 => ?_) (σ 103 56).toNat (j := 0) (by omega) (by omega) rfl
      obtain ⟨-, hF, -, hw⟩ := (jm_sp_to hKN (k := k) (σ 103 56).toNat (by omega)).resolve_left (fun hh => by have := hfc.2; omega)
      have hw : w ≤ 162 * ((σ 103 56).toNat : Int) := by
        have := hw
        rw [← H4] at this
        exact this
      refine jw_W_n 5 (i' := 62) (ls' := [some (.inr (.inr 103)), some (.inl k), some (.inr (.inl x)), none, some (.inr (.inl y)), none, some (.inr (.inl z)), none, some (.inr (.inl w)), none, some (.inl (σ 103 56))]) (st' := [.inr (.inl w), .inr (.inl z), .inr (.inl y), .inr (.inl x), .inr (.inr 103)]) rfl ?_
      refine jw_W_call (as := [.inr (.inr 103), .inr (.inl x), .inr (.inl y), .inr (.inl z), .inr (.inl w)]) (rest := []) rfl rfl rfl rfl (Nat.le_of_ble_eq_true rfl) (.inr rfl) (jm_isEfficient hPm hKN.1.2.2.2.2.1 hKN.1.2.1 (T := w) (by omega) (show ge_F (jm_RR (σ 103 3) (jm_bA σ)) (x, y, z, w) from H4 ▸ hF)) (by omega) ?_ rfl
      rintro r1 σ1 ⟨v, rfl, hf, hv⟩
      show jw_W (js_S n) _ md_276 63 [some (.inr (.inr 103)), some (.inl k), some (.inr (.inl x)), none, some (.inr (.inl y)), none, some (.inr (.inl z)), none, some (.inr (.inl w)), none, some (.inl (σ 103 56))] [.inl v] σ1 _
      refine jw_W_ir rfl ?_
      exact ⟨_, rfl, jm_fe_z hf, by rcases hv with ⟨e, hv⟩ | ⟨e, hv⟩; exact .inl ⟨e, hfc, by rw [← H4]; exact hv⟩; exact .inr ⟨e, fun hh => hh.2 (by rw [← H4]; exact hv)⟩⟩
    · exact absurd hc1 (show ¬ ¬ ((1 : Int) ≠ 0) by omega)
  · rw [hs]
    show jw_W (js_S n) _ md_276 3 [some (.inr (.inr 103)), some (.inl k), none, none, none, none, none, none, none, none, none] [.inl 0] σ _
    refine jw_W_if rfl (by unfold jw_rg; omega) (fun hc2 => ?_) (fun hc2 => ?_)
    · exact absurd hc2 (show ¬ ((0 : Int) ≠ 0) by omega)
    · clear hc2
      refine jw_W_n 1 (i' := 5) (ls' := [some (.inr (.inr 103)), some (.inl k), none, none, none, none, none, none, none, none, none]) (st' := [.inl 0]) rfl ?_
      refine jw_W_ir rfl ?_
      exact ⟨_, rfl, jm_fz_rf hKN, .inr ⟨rfl, fun hh => hfc hh.1⟩⟩
/-- the answer of face -/
noncomputable def jm_fca (σ : jw_H) (k j : Int) : Int := if ¬ ((0 ≤ k ∧ k < σ 103 5 + 2 * σ 103 3) ∧ (0 ≤ j ∧ j ≤ 2)) then -1 else if j = 0 then jx_cn (fun c => jb_in (σ 136 c) k.toNat) (σ 103 56).toNat else if j = 1 then jx_b (jm_fc σ k) else jx_b (jm_gf σ k)
theorem jm_face {n : Nat} {σ : jw_H} {C : List (ge_R × Int)} (hKN : jm_KN σ C) {k j : Int} (hk : jw_rg k) (hj : jw_rg j) : jw_T (js_S n) 8 277 [.inr (.inr 103), .inl k, .inl j] σ (fun r σ' => r = some (.inl (jm_fca σ k j)) ∧ jm_fz σ σ') := by
  refine jw_T_of (D := 7) (M := mm_277) rfl (Nat.le_of_ble_eq_true rfl) (ls0 := [some (.inr (.inr 103)), some (.inl k), some (.inl j)]) rfl ?_ (by rintro _ _ ⟨rfl, -⟩; rfl)
  have hcb := (jm_kw_cbd hKN.1).2 σ (jm_fk_rf σ)
  have hcn := hcb.1
  have hPm := hKN.1.1
  have hqq := hPm.1
  have hww := hPm.2.1
  have hkk := hPm.2.2.1
  have hg57 := hKN.2.2.1.1
  have hg58 := hKN.2.2.2.1.1
  have rhk := hk
  unfold jw_rg at rhk
  have rhj := hj
  unfold jw_rg at rhj
  refine jw_W_n 3 (i' := 3) (ls' := [some (.inr (.inr 103)), some (.inl k), some (.inl j)]) (st' := [.inr (.inr 103), .inl 0, .inl k]) rfl ?_
  refine jw_W_call (as := [.inr (.inr 103)]) (rest := [.inl 0, .inl k]) rfl rfl rfl rfl (Nat.le_of_ble_eq_true rfl) (.inr rfl) (jm_planes hPm) (by omega) ?_ rfl
  rintro r1 σz ⟨rfl, hs⟩
  rw [hs]
  show jw_W (js_S n) _ md_277 4 [some (.inr (.inr 103)), some (.inl k), some (.inl j)] [.inl (σ 103 5 + 2 * σ 103 3), .inl 0, .inl k] σ _
  refine jw_W_n 2 (i' := 6) (ls' := [some (.inr (.inr 103)), some (.inl k), some (.inl j)]) (st' := [.inl ((σ 103 5 + 2 * σ 103 3) - 1), .inl 0, .inl k]) rfl ?_
  refine jw_W_call (as := [.inl k, .inl 0, .inl ((σ 103 5 + 2 * σ 103 3) - 1)]) (rest := []) rfl rfl rfl rfl (Nat.le_of_ble_eq_true rfl) (.inl rfl) (jm_in (by unfold jw_rg; omega) (by unfold jw_rg; omega) (by unfold jw_rg; omega)) (by omega) ?_ rfl
  rintro r1 σz (⟨rfl, hs, q1⟩ | ⟨rfl, hs, q1⟩)
  · rw [hs]
    show jw_W (js_S n) _ md_277 7 [some (.inr (.inr 103)), some (.inl k), some (.inl j)] [.inl 1] σ _
    refine jw_W_if rfl (by unfold jw_rg; omega) (fun hc1 => ?_) (fun hc1 => ?_)
    · exact absurd hc1 (show ¬ ((1 : Int) = 0) by omega)
    · clear hc1
      refine jw_W_n 3 (i' := 11) (ls' := [some (.inr (.inr 103)), some (.inl k), some (.inl j)]) (st' := [.inl 2, .inl 0, .inl j]) rfl ?_
      refine jw_W_call (as := [.inl j, .inl 0, .inl 2]) (rest := []) rfl rfl rfl rfl (Nat.le_of_ble_eq_true rfl) (.inl rfl) (jm_in (by unfold jw_rg; omega) (by unfold jw_rg; omega) (by unfold jw_rg; omega)) (by omega) ?_ rfl
      rintro r1 σz (⟨rfl, hs, q2⟩ | ⟨rfl, hs, q2⟩)
      · rw [hs]
        show jw_W (js_S n) _ md_277 12 [some (.inr (.inr 103)), some (.inl k), some (.inl j)] [.inl 1] σ _
        refine jw_W_if rfl (by unfold jw_rg; omega) (fun hc2 => ?_) (fun hc2 => ?_)
        · clear hc2
          refine jw_W_n 1 (i' := 16) (ls' := [some (.inr (.inr 103)), some (.inl k), some (.inl j)]) (st' := [.inl j]) rfl ?_
          refine jw_W_if rfl (by unfold jw_rg; omega) (fun hc3 => ?_) (fun hc3 => ?_)
          · have hc3 : j ≠ 0 := hc3
            refine jw_W_n 2 (i' := 23) (ls' := [some (.inr (.inr 103)), some (.inl k), some (.inl j)]) (st' := [.inl 1, .inl j]) rfl ?_
            refine jw_W_ic rfl (by unfold jw_rg; omega) (by unfold jw_rg; omega) (fun hc4 => ?_) (fun hc4 => ?_)
            · have hc4 : j ≠ 1 := hc4
              refine jw_W_n 2 (i' := 31) (ls' := [some (.inr (.inr 103)), some (.inl k), some (.inl j)]) (st' := [.inl k, .inr (.inr 103)]) rfl ?_
              refine jw_W_call (as := [.inr (.inr 103), .inl k]) (rest := []) rfl rfl rfl rfl (Nat.le_of_ble_eq_true rfl) (.inr rfl) (jm_isGoodFace hKN (by omega) (by omega)) (by omega) ?_ rfl
              rintro r1 σ1 ⟨v, rfl, hf, hv⟩
              have hv01 : v = 0 ∨ v = 1 := by rcases hv with ⟨e, -⟩ | ⟨e, -⟩ <;> omega
              show jw_W (js_S n) _ md_277 32 [some (.inr (.inr 103)), some (.inl k), some (.inl j)] [.inl v] σ1 _
              refine jw_W_if rfl (by unfold jw_rg; omega) (fun hc5 => ?_) (fun hc5 => ?_)
              · have hc5 : v = 0 := hc5
                refine jw_W_n 1 (i' := 36) (ls' := [some (.inr (.inr 103)), some (.inl k), some (.inl j)]) (st' := [.inl 0]) rfl ?_
                refine jw_W_ir rfl ?_
                exact ⟨by unfold jm_fca; rw [if_neg (by omega), if_neg (by omega)]; rw [if_neg (by omega)]; rw [jx_b_0 (hv.resolve_left (fun hh => by omega)).2], hf⟩
              · have hc5 : ¬ (v = 0) := hc5
                refine jw_W_n 2 (i' := 36) (ls' := [some (.inr (.inr 103)), some (.inl k), some (.inl j)]) (st' := [.inl 1]) rfl ?_
                refine jw_W_ir rfl ?_
                exact ⟨by unfold jm_fca; rw [if_neg (by omega), if_neg (by omega)]; rw [if_neg (by omega)]; rw [jx_b_1 (hv.resolve_right (fun hh => by omega)).2], hf⟩
            · have hc4 : j = 1 := Classical.not_not.mp hc4
              refine jw_W_n 2 (i' := 26) (ls' := [some (.inr (.inr 103)), some (.inl k), some (.inl j)]) (st' := [.inl k, .inr (.inr 103)]) rfl ?_
              refine jw_W_call (as := [.inr (.inr 103), .inl k]) (rest := []) rfl rfl rfl rfl (Nat.le_of_ble_eq_true rfl) (.inr rfl) (jm_isFace hKN (by omega) (by omega)) (by omega) ?_ rfl
              rintro r1 σz (⟨rfl, hs, hfc⟩ | ⟨rfl, hs, hfc⟩)
              · rw [hs]
                show jw_W (js_S n) _ md_277 27 [some (.inr (.inr 103)), some (.inl k), some (.inl j)] [.inl 1] σ _
                refine jw_W_if rfl (by unfold jw_rg; omega) (fun hc6 => ?_) (fun hc6 => ?_)
                · exact absurd hc6 (show ¬ ((1 : Int) = 0) by omega)
                · clear hc6
                  refine jw_W_n 3 (i' := 36) (ls' := [some (.inr (.inr 103)), some (.inl k), some (.inl j)]) (st' := [.inl 1]) rfl ?_
                  refine jw_W_ir rfl ?_
                  exact ⟨by unfold jm_fca; rw [if_neg (by omega), if_neg (by omega), if_pos (by omega)]; rw [jx_b_1 hfc], jm_fz_rf hKN⟩
              · rw [hs]
                show jw_W (js_S n) _ md_277 27 [some (.inr (.inr 103)), some (.inl k), some (.inl j)] [.inl 0] σ _
                refine jw_W_if rfl (by unfold jw_rg; omega) (fun hc7 => ?_) (fun hc7 => ?_)
                · clear hc7
                  refine jw_W_n 1 (i' := 36) (ls' := [some (.inr (.inr 103)), some (.inl k), some (.inl j)]) (st' := [.inl 0]) rfl ?_
                  refine jw_W_ir rfl ?_
                  exact ⟨by unfold jm_fca; rw [if_neg (by omega), if_neg (by omega), if_pos (by omega)]; rw [jx_b_0 hfc], jm_fz_rf hKN⟩
                · exact absurd hc7 (show ¬ ¬ ((0 : Int) = 0) by omega)
          · have hc3 : j = 0 := Classical.not_not.mp hc3
            refine jw_W_n 2 (i' := 19) (ls' := [some (.inr (.inr 103)), some (.inl k), some (.inl j)]) (st' := [.inl k, .inr (.inr 103)]) rfl ?_
            refine jw_W_call (as := [.inr (.inr 103), .inl k]) (rest := []) rfl rfl rfl rfl (Nat.le_of_ble_eq_true rfl) (.inr rfl) (jm_onPlane hKN (by omega) (by omega)) (by omega) ?_ rfl
            rintro r1 σz ⟨rfl, hs⟩
            rw [hs]
            show jw_W (js_S n) _ md_277 20 [some (.inr (.inr 103)), some (.inl k), some (.inl j)] [.inl (jx_cn (fun c => jb_in (σ 136 c) k.toNat) (σ 103 56).toNat)] σ _
            refine jw_W_n 1 (i' := 36) (ls' := [some (.inr (.inr 103)), some (.inl k), some (.inl j)]) (st' := [.inl (jx_cn (fun c => jb_in (σ 136 c) k.toNat) (σ 103 56).toNat)]) rfl ?_
            refine jw_W_ir rfl ?_
            exact ⟨by unfold jm_fca; rw [if_neg (by omega), if_pos (by omega)], jm_fz_rf hKN⟩
        · exact absurd hc2 (show ¬ ¬ ((1 : Int) ≠ 0) by omega)
      · rw [hs]
        show jw_W (js_S n) _ md_277 12 [some (.inr (.inr 103)), some (.inl k), some (.inl j)] [.inl 0] σ _
        refine jw_W_if rfl (by unfold jw_rg; omega) (fun hc8 => ?_) (fun hc8 => ?_)
        · exact absurd hc8 (show ¬ ((0 : Int) ≠ 0) by omega)
        · clear hc8
          refine jw_W_n 1 (i' := 14) (ls' := [some (.inr (.inr 103)), some (.inl k), some (.inl j)]) (st' := [.inl ((-1))]) rfl ?_
          refine jw_W_ir rfl ?_
          exact ⟨by unfold jm_fca; rw [if_pos (by omega)], jm_fz_rf hKN⟩
  · rw [hs]
    show jw_W (js_S n) _ md_277 7 [some (.inr (.inr 103)), some (.inl k), some (.inl j)] [.inl 0] σ _
    refine jw_W_if rfl (by unfold jw_rg; omega) (fun hc9 => ?_) (fun hc9 => ?_)
    · clear hc9
      refine jw_W_n 1 (i' := 14) (ls' := [some (.inr (.inr 103)), some (.inl k), some (.inl j)]) (st' := [.inl ((-1))]) rfl ?_
      refine jw_W_ir rfl ?_
      exact ⟨by unfold jm_fca; rw [if_pos (by omega)], jm_fz_rf hKN⟩
    · exact absurd hc9 (show ¬ ¬ ((0 : Int) = 0) by omega)
theorem jx_face {n : Nat} {σ : jw_H} {o : Nat} {C : List (ge_R × Int)} (hK : jx_K n o C σ) {k j : Int} (hk : jw_rg k) (hj : jw_rg j) : jw_T (js_S n) 8 137 [.inr (.inr 13), .inl k, .inl j] σ (fun r σ' => r = some (.inl (jm_fca σ k j)) ∧ jx_fy σ σ') := by
  refine jw_T_of (D := 7) (M := mm_137) rfl (Nat.le_of_ble_eq_true rfl) (ls0 := [some (.inr (.inr 13)), some (.inl k), some (.inl j)]) rfl ?_ (by rintro _ _ ⟨rfl, -⟩; rfl)
  have hI := hK.1
  obtain ⟨hto, hfo, hp, hP, e0, e1, e2, hPm, hcb, c0, p0, -⟩ := jx_I0_x hI
  have ho := hp.1
  have hq := hP.1
  have hw := hP.2.1
  have hq2 := hP.2.2.1
  have hcn := hcb.1
  have hKN := hK.2.1
  have rhk := hk
  unfold jw_rg at rhk
  have rhj := hj
  unfold jw_rg at rhj
  refine jw_W_n 2 (i' := 2) (ls' := [some (.inr (.inr 13)), some (.inl k), some (.inl j)]) (st' := [.inl k, .inr (.inr 13)]) rfl ?_
  refine jw_W_call (as := [.inr (.inr 13), .inl k]) (rest := []) rfl rfl rfl rfl (Nat.le_of_ble_eq_true rfl) (.inr rfl) (jx_isPlane hK hk) (by omega) ?_ rfl
  rintro r1 σz (⟨rfl, hs, q3⟩ | ⟨rfl, hs, q3⟩)
  · rw [hs]
    show jw_W (js_S n) _ md_137 3 [some (.inr (.inr 13)), some (.inl k), some (.inl j)] [.inl 1] σ _
    refine jw_W_if rfl (by unfold jw_rg; omega) (fun hc1 => ?_) (fun hc1 => ?_)
    · exact absurd hc1 (show ¬ ((1 : Int) = 0) by omega)
    · clear hc1
      refine jw_W_n 1 (i' := 5) (ls' := [some (.inr (.inr 13)), some (.inl k), some (.inl j)]) (st' := [.inl j]) rfl ?_
      refine jw_W_if rfl (by unfold jw_rg; omega) (fun hc2 => ?_) (fun hc2 => ?_)
      · have hc2 : j < 0 := hc2
        refine jw_W_n 1 (i' := 10) (ls' := [some (.inr (.inr 13)), some (.inl k), some (.inl j)]) (st' := [.inl ((-1))]) rfl ?_
        refine jw_W_ir rfl ?_
        exact ⟨by unfold jm_fca; rw [if_pos (by omega)], jx_fy_rf _⟩
      · have hc2 : ¬ (j < 0) := hc2
        refine jw_W_n 2 (i' := 8) (ls' := [some (.inr (.inr 13)), some (.inl k), some (.inl j)]) (st' := [.inl 2, .inl j]) rfl ?_
        refine jw_W_ic rfl (by unfold jw_rg; omega) (by unfold jw_rg; omega) (fun hc3 => ?_) (fun hc3 => ?_)
        · have hc3 : j ≤ 2 := hc3
          refine jw_W_n 1 (i' := 12) (ls' := [some (.inr (.inr 13)), some (.inl k), some (.inl j)]) (st' := [.inl j]) rfl ?_
          refine jw_W_if rfl (by unfold jw_rg; omega) (fun hc4 => ?_) (fun hc4 => ?_)
          · have hc4 : j ≠ 0 := hc4
            refine jw_W_n 1 (i' := 19) (ls' := [some (.inr (.inr 13)), some (.inl k), some (.inl j)]) (st' := [.inr (.inr 13)]) rfl ?_
            refine jw_W_gf rfl rfl rfl ?_
            show jw_W (js_S n) _ md_137 20 [some (.inr (.inr 13)), some (.inl k), some (.inl j)] [.inr (.inr 57)] σ _
            refine jw_W_n 1 (i' := 21) (ls' := [some (.inr (.inr 13)), some (.inl k), some (.inl j)]) (st' := [.inl k, .inr (.inr 57)]) rfl ?_
            refine jw_W_call (as := [.inr (.inr 57), .inl k]) (rest := []) rfl rfl rfl rfl (Nat.le_of_ble_eq_true rfl) (.inr rfl) (jx_isFace hK (by omega) (by omega)) (by omega) ?_ rfl
            rintro r1 σz (⟨rfl, hs, hfc⟩ | ⟨rfl, hs, hfc⟩)
            · rw [hs]
              show jw_W (js_S n) _ md_137 22 [some (.inr (.inr 13)), some (.inl k), some (.inl j)] [.inl 1] σ _
              refine jw_W_if rfl (by unfold jw_rg; omega) (fun hc5 => ?_) (fun hc5 => ?_)
              · exact absurd hc5 (show ¬ ((1 : Int) = 0) by omega)
              · clear hc5
                refine jw_W_n 2 (i' := 25) (ls' := [some (.inr (.inr 13)), some (.inl k), some (.inl j)]) (st' := [.inl 1, .inl j]) rfl ?_
                refine jw_W_ic rfl (by unfold jw_rg; omega) (by unfold jw_rg; omega) (fun hc6 => ?_) (fun hc6 => ?_)
                · have hc6 : j = 1 := hc6
                  refine jw_W_n 2 (i' := 34) (ls' := [some (.inr (.inr 13)), some (.inl k), some (.inl j)]) (st' := [.inl 1]) rfl ?_
                  refine jw_W_ir rfl ?_
                  exact ⟨by unfold jm_fca; rw [if_neg (by omega), if_neg (by omega), if_pos (by omega)]; rw [jx_b_1 hfc], jx_fy_rf _⟩
                · have hc6 : ¬ (j = 1) := hc6
                  refine jw_W_n 1 (i' := 27) (ls' := [some (.inr (.inr 13)), some (.inl k), some (.inl j)]) (st' := [.inr (.inr 13)]) rfl ?_
                  refine jw_W_gf rfl rfl rfl ?_
                  show jw_W (js_S n) _ md_137 28 [some (.inr (.inr 13)), some (.inl k), some (.inl j)] [.inr (.inr 57)] σ _
                  refine jw_W_n 1 (i' := 29) (ls' := [some (.inr (.inr 13)), some (.inl k), some (.inl j)]) (st' := [.inl k, .inr (.inr 57)]) rfl ?_
                  refine jw_W_call (as := [.inr (.inr 57), .inl k]) (rest := []) rfl rfl rfl rfl (Nat.le_of_ble_eq_true rfl) (.inr rfl) (jx_isEfficientFace hK (by omega) (by omega) hfc) (by omega) ?_ rfl
                  rintro r1 σ1 ⟨v, rfl, hf, hv⟩
                  have hv01 : v = 0 ∨ v = 1 := by rcases hv with ⟨e, -⟩ | ⟨e, -⟩ <;> omega
                  show jw_W (js_S n) _ md_137 30 [some (.inr (.inr 13)), some (.inl k), some (.inl j)] [.inl v] σ1 _
                  refine jw_W_if rfl (by unfold jw_rg; omega) (fun hc7 => ?_) (fun hc7 => ?_)
                  · have hc7 : v = 0 := hc7
                    refine jw_W_n 1 (i' := 34) (ls' := [some (.inr (.inr 13)), some (.inl k), some (.inl j)]) (st' := [.inl 0]) rfl ?_
                    refine jw_W_ir rfl ?_
                    exact ⟨by unfold jm_fca; rw [if_neg (by omega), if_neg (by omega), if_neg (by omega)]; rw [jx_b_0 (fun hh : jm_gf σ k => hh.2 (hv.resolve_left (fun hh => by omega)).2)], hf⟩
                  · have hc7 : ¬ (v = 0) := hc7
                    refine jw_W_n 2 (i' := 34) (ls' := [some (.inr (.inr 13)), some (.inl k), some (.inl j)]) (st' := [.inl 1]) rfl ?_
                    refine jw_W_ir rfl ?_
                    exact ⟨by unfold jm_fca; rw [if_neg (by omega), if_neg (by omega), if_neg (by omega)]; rw [jx_b_1 (show jm_gf σ k from ⟨hfc, (hv.resolve_right (fun hh => by omega)).2⟩)], hf⟩
            · rw [hs]
              show jw_W (js_S n) _ md_137 22 [some (.inr (.inr 13)), some (.inl k), some (.inl j)] [.inl 0] σ _
              refine jw_W_if rfl (by unfold jw_rg; omega) (fun hc8 => ?_) (fun hc8 => ?_)
              · clear hc8
                refine jw_W_n 1 (i' := 34) (ls' := [some (.inr (.inr 13)), some (.inl k), some (.inl j)]) (st' := [.inl 0]) rfl ?_
                refine jw_W_ir rfl ?_
                refine ⟨?_, jx_fy_rf _⟩
                unfold jm_fca
                rw [if_neg (by omega), if_neg (by omega), jx_b_0 hfc, jx_b_0 (fun hh : jm_gf σ k => hfc hh.1)]
                split <;> rfl
              · exact absurd hc8 (show ¬ ¬ ((0 : Int) = 0) by omega)
          · have hc4 : j = 0 := Classical.not_not.mp hc4
            refine jw_W_n 1 (i' := 14) (ls' := [some (.inr (.inr 13)), some (.inl k), some (.inl j)]) (st' := [.inr (.inr 13)]) rfl ?_
            refine jw_W_gf rfl rfl rfl ?_
            show jw_W (js_S n) _ md_137 15 [some (.inr (.inr 13)), some (.inl k), some (.inl j)] [.inr (.inr 57)] σ _
            refine jw_W_n 1 (i' := 16) (ls' := [some (.inr (.inr 13)), some (.inl k), some (.inl j)]) (st' := [.inl k, .inr (.inr 57)]) rfl ?_
            refine jw_W_call (as := [.inr (.inr 57), .inl k]) (rest := []) rfl rfl rfl rfl (Nat.le_of_ble_eq_true rfl) (.inr rfl) (jx_cornersOn hK (by omega) (by omega)) (by omega) ?_ rfl
            rintro r1 σz ⟨rfl, hs⟩
            rw [hs]
            show jw_W (js_S n) _ md_137 17 [some (.inr (.inr 13)), some (.inl k), some (.inl j)] [.inl (jx_cn (fun c => jb_in (σ 136 c) k.toNat) (σ 103 56).toNat)] σ _
            refine jw_W_ir rfl ?_
            exact ⟨by unfold jm_fca; rw [if_neg (by omega), if_pos (by omega)], jx_fy_rf _⟩
        · have hc3 : ¬ (j ≤ 2) := hc3
          refine jw_W_n 1 (i' := 10) (ls' := [some (.inr (.inr 13)), some (.inl k), some (.inl j)]) (st' := [.inl ((-1))]) rfl ?_
          refine jw_W_ir rfl ?_
          exact ⟨by unfold jm_fca; rw [if_pos (by omega)], jx_fy_rf _⟩
  · rw [hs]
    show jw_W (js_S n) _ md_137 3 [some (.inr (.inr 13)), some (.inl k), some (.inl j)] [.inl 0] σ _
    refine jw_W_if rfl (by unfold jw_rg; omega) (fun hc9 => ?_) (fun hc9 => ?_)
    · clear hc9
      refine jw_W_n 1 (i' := 10) (ls' := [some (.inr (.inr 13)), some (.inl k), some (.inl j)]) (st' := [.inl ((-1))]) rfl ?_
      refine jw_W_ir rfl ?_
      exact ⟨by unfold jm_fca; rw [if_pos (by omega)], jx_fy_rf _⟩
    · exact absurd hc9 (show ¬ ¬ ((0 : Int) = 0) by omega)
theorem jm_fca_me {σ0 σ : jw_H} (h : jx_me σ0 σ) (hP : jm_Pb σ0) (k j : Int) : jm_fca σ k j = jm_fca σ0 k j := by
  unfold jm_fca
  rw [jx_b_iff (jm_gf_me h hP k).1, jx_b_iff (jm_gf_me h hP k).2, h 103 (by omega), h 136 (by omega)]
theorem jm_faces0_loop {n : Nat} {σ0 : jw_H} {C : List (ge_R × Int)} (hKN0 : jm_KN σ0 C) : ∀ (f : Nat) {σ : jw_H} {k m : Int}, 0 ≤ k → k + f = σ0 103 5 + 2 * σ0 103 3 → jm_fz σ0 σ → m = jx_cn (fun c => jm_fc σ0 c) k.toNat → jw_W (js_S n) 7 md_278 4 [some (.inr (.inr 103)), some (.inl 0), some (.inl m), some (.inl k)] [] σ (fun r σ' => r = some (.inl (jx_cn (fun c => jm_fc σ0 c) (σ0 103 5 + 2 * σ0 103 3).toNat)) ∧ jm_fz σ0 σ')
  | f, σ, k, m, k0, hk, HZ, H => by
    have ih : ∀ {σ' : jw_H} {m' : Int}, k < σ0 103 5 + 2 * σ0 103 3 → jm_fz σ0 σ' → m' = jx_cn (fun c => jm_fc σ0 c) (k + 1).toNat → jw_W (js_S n) 7 md_278 4 [some (.inr (.inr 103)), some (.inl 0), some (.inl m'), some (.inl (k + 1))] [] σ' (fun r σ' => r = some (.inl (jx_cn (fun c => jm_fc σ0 c) (σ0 103 5 + 2 * σ0 103 3).toNat)) ∧ jm_fz σ0 σ') := by
      intro σ' m' h1 h2 h3
      match f, hk with
      | 0, hk => omega
      | f + 1, hk => exact jm_faces0_loop hKN0 f (by omega) (by omega) h2 h3
    have hP0 := hKN0.1.1
    have hKN := jm_KN_fz HZ hKN0
    have hgz := jm_gf_z HZ hP0 k
    have e5 : σ 103 5 = σ0 103 5 := HZ.2.1 5 (by omega)
    have e3 : σ 103 3 = σ0 103 3 := HZ.2.1 3 (by omega)
    have hcb := (jm_kw_cbd hKN.1).2 σ (jm_fk_rf σ)
    have hcn := hcb.1
    have hPm := hKN.1.1
    have hqq := hPm.1
    have hww := hPm.2.1
    have hkk := hPm.2.2.1
    have hg57 := hKN.2.2.1.1
    have hg58 := hKN.2.2.2.1.1
    refine jw_W_n 2 (i' := 6) (ls' := [some (.inr (.inr 103)), some (.inl 0), some (.inl m), some (.inl k)]) (st' := [.inr (.inr 103), .inl k]) rfl ?_
    refine jw_W_call (as := [.inr (.inr 103)]) (rest := [.inl k]) rfl rfl rfl rfl (Nat.le_of_ble_eq_true rfl) (.inr rfl) (jm_planes hPm) (by omega) ?_ rfl
    rintro r1 σz ⟨rfl, hs⟩
    rw [hs, e5, e3]
    show jw_W (js_S n) _ md_278 7 [some (.inr (.inr 103)), some (.inl 0), some (.inl m), some (.inl k)] [.inl (σ0 103 5 + 2 * σ0 103 3), .inl k] σ _
    refine jw_W_ic rfl (by unfold jw_rg; omega) (by unfold jw_rg; omega) (fun hc1 => ?_) (fun hc1 => ?_)
    · have hc1 : k ≥ (σ0 103 5 + 2 * σ0 103 3) := hc1
      refine jw_W_n 1 (i' := 26) (ls' := [some (.inr (.inr 103)), some (.inl 0), some (.inl m), some (.inl k)]) (st' := [.inl m]) rfl ?_
      refine jw_W_ir rfl ?_
      have hkl : k = σ0 103 5 + 2 * σ0 103 3 := by omega
      subst hkl
      exact ⟨by rw [H], HZ⟩
    · have hc1 : ¬ (k ≥ (σ0 103 5 + 2 * σ0 103 3)) := hc1
      refine jw_W_n 1 (i' := 9) (ls' := [some (.inr (.inr 103)), some (.inl 0), some (.inl m), some (.inl k)]) (st' := [.inl 0]) rfl ?_
      refine jw_W_if rfl (by unfold jw_rg; omega) (fun hc2 => ?_) (fun hc2 => ?_)
      · clear hc2
        refine jw_W_n 2 (i' := 17) (ls' := [some (.inr (.inr 103)), some (.inl 0), some (.inl m), some (.inl k)]) (st' := [.inl k, .inr (.inr 103)]) rfl ?_
        refine jw_W_call (as := [.inr (.inr 103), .inl k]) (rest := []) rfl rfl rfl rfl (Nat.le_of_ble_eq_true rfl) (.inr rfl) (jm_isFace hKN k0 (by omega)) (by omega) ?_ rfl
        rintro r1 σz (⟨rfl, hs, hfc⟩ | ⟨rfl, hs, hfc⟩)
        · rw [hs]
          show jw_W (js_S n) _ md_278 18 [some (.inr (.inr 103)), some (.inl 0), some (.inl m), some (.inl k)] [.inl 1] σ _
          refine jw_W_if rfl (by unfold jw_rg; omega) (fun hc3 => ?_) (fun hc3 => ?_)
          · exact absurd hc3 (show ¬ ((1 : Int) = 0) by omega)
          · clear hc3
            refine jw_W_n 6 (i' := 4) (ls' := [some (.inr (.inr 103)), some (.inl 0), some (.inl (m + 1)), some (.inl (k + 1))]) (st' := []) rfl ?_
            exact ih (by omega) HZ (jx_cn_yes k0 H (hgz.1.mp hfc))
        · rw [hs]
          show jw_W (js_S n) _ md_278 18 [some (.inr (.inr 103)), some (.inl 0), some (.inl m), some (.inl k)] [.inl 0] σ _
          refine jw_W_if rfl (by unfold jw_rg; omega) (fun hc4 => ?_) (fun hc4 => ?_)
          · clear hc4
            refine jw_W_n 2 (i' := 4) (ls' := [some (.inr (.inr 103)), some (.inl 0), some (.inl m), some (.inl (k + 1))]) (st' := []) rfl ?_
            exact ih (by omega) HZ (jx_cn_no k0 H (fun hh => hfc (hgz.1.mpr hh)))
          · exact absurd hc4 (show ¬ ¬ ((0 : Int) = 0) by omega)
      · exact absurd hc2 (show ¬ ¬ ((0 : Int) = 0) by omega)
theorem jm_faces0 {n : Nat} {σ : jw_H} {C : List (ge_R × Int)} (hKN : jm_KN σ C)  : jw_T (js_S n) 8 278 [.inr (.inr 103), .inl 0] σ (fun r σ' => r = some (.inl (jx_cn (fun c => jm_fc σ c) (σ 103 5 + 2 * σ 103 3).toNat)) ∧ jm_fz σ σ') := by
  refine jw_T_of (D := 7) (M := mm_278) rfl (Nat.le_of_ble_eq_true rfl) (ls0 := [some (.inr (.inr 103)), some (.inl 0), none, none]) rfl ?_ (by rintro _ _ ⟨rfl, -⟩; rfl)
  have hcb := (jm_kw_cbd hKN.1).2 σ (jm_fk_rf σ)
  have hcn := hcb.1
  have hPm := hKN.1.1
  have hqq := hPm.1
  have hww := hPm.2.1
  have hkk := hPm.2.2.1
  have hg57 := hKN.2.2.1.1
  have hg58 := hKN.2.2.2.1.1
  refine jw_W_n 4 (i' := 4) (ls' := [some (.inr (.inr 103)), some (.inl 0), some (.inl 0), some (.inl 0)]) (st' := []) rfl ?_
  exact jm_faces0_loop hKN (σ 103 5 + 2 * σ 103 3).toNat (k := 0) (m := 0) (by omega) (by omega) (jm_fz_rf hKN) rfl
theorem jx_faces0_loop {n : Nat} {σ0 : jw_H} {o : Nat} {C : List (ge_R × Int)} (hK0 : jx_K n o C σ0) : ∀ (f : Nat) {σ : jw_H} {k m : Int}, 0 ≤ k → k + f = σ0 103 5 + 2 * σ0 103 3 → jx_fy σ0 σ → m = jx_cn (fun c => jm_fc σ0 c) k.toNat → jw_W (js_S n) 7 md_35 4 [some (.inr (.inr 57)), some (.inl 0), some (.inl m), some (.inl k)] [] σ (fun r σ' => r = some (.inl (jx_cn (fun c => jm_fc σ0 c) (σ0 103 5 + 2 * σ0 103 3).toNat)) ∧ jx_fy σ0 σ')
  | f, σ, k, m, k0, hk, HZ, H => by
    have ih : ∀ {σ' : jw_H} {m' : Int}, k < σ0 103 5 + 2 * σ0 103 3 → jx_fy σ0 σ' → m' = jx_cn (fun c => jm_fc σ0 c) (k + 1).toNat → jw_W (js_S n) 7 md_35 4 [some (.inr (.inr 57)), some (.inl 0), some (.inl m'), some (.inl (k + 1))] [] σ' (fun r σ' => r = some (.inl (jx_cn (fun c => jm_fc σ0 c) (σ0 103 5 + 2 * σ0 103 3).toNat)) ∧ jx_fy σ0 σ') := by
      intro σ' m' h1 h2 h3
      match f, hk with
      | 0, hk => omega
      | f + 1, hk => exact jx_faces0_loop hK0 f (by omega) (by omega) h2 h3
    have hP0 := hK0.2.1.1.1
    have hme := jx_fx_me (jx_fy_x HZ)
    have hK := jx_K_y HZ hK0
    have hgz := jm_gf_me hme hP0 k
    have e5 : σ 103 5 = σ0 103 5 := by rw [hme 103 (by omega)]
    have e3 : σ 103 3 = σ0 103 3 := by rw [hme 103 (by omega)]
    have hI := hK.1
    obtain ⟨hto, hfo, hp, hP, e0, e1, e2, hPm, hcb, c0, p0, -⟩ := jx_I0_x hI
    have ho := hp.1
    have hq := hP.1
    have hw := hP.2.1
    have hq2 := hP.2.2.1
    have hcn := hcb.1
    refine jw_W_n 2 (i' := 6) (ls' := [some (.inr (.inr 57)), some (.inl 0), some (.inl m), some (.inl k)]) (st' := [.inr (.inr 57), .inl k]) rfl ?_
    refine jw_W_gf rfl rfl rfl ?_
    show jw_W (js_S n) _ md_35 7 [some (.inr (.inr 57)), some (.inl 0), some (.inl m), some (.inl k)] [.inr (.inr ((σ 57 6).toNat)), .inl k] σ _
    rw [hfo]
    refine jw_W_call (as := [.inr (.inr o)]) (rest := [.inl k]) rfl rfl rfl rfl (Nat.le_of_ble_eq_true rfl) (.inr (jx_rc hp.2.1)) (jx_planes hp) (by omega) ?_ rfl
    rintro r1 σz ⟨rfl, hs⟩
    rw [hs, e0, e2, e5, e3]
    show jw_W (js_S n) _ md_35 8 [some (.inr (.inr 57)), some (.inl 0), some (.inl m), some (.inl k)] [.inl (σ0 103 5 + 2 * σ0 103 3), .inl k] σ _
    refine jw_W_ic rfl (by unfold jw_rg; omega) (by unfold jw_rg; omega) (fun hc1 => ?_) (fun hc1 => ?_)
    · have hc1 : k ≥ (σ0 103 5 + 2 * σ0 103 3) := hc1
      refine jw_W_n 1 (i' := 23) (ls' := [some (.inr (.inr 57)), some (.inl 0), some (.inl m), some (.inl k)]) (st' := [.inl m]) rfl ?_
      refine jw_W_ir rfl ?_
      have hkl : k = σ0 103 5 + 2 * σ0 103 3 := by omega
      subst hkl
      exact ⟨by rw [H], HZ⟩
    · have hc1 : ¬ (k ≥ (σ0 103 5 + 2 * σ0 103 3)) := hc1
      refine jw_W_n 2 (i' := 11) (ls' := [some (.inr (.inr 57)), some (.inl 0), some (.inl m), some (.inl k)]) (st' := [.inl k, .inr (.inr 57)]) rfl ?_
      refine jw_W_call (as := [.inr (.inr 57), .inl k]) (rest := []) rfl rfl rfl rfl (Nat.le_of_ble_eq_true rfl) (.inr rfl) (jx_isFace hK k0 (by omega)) (by omega) ?_ rfl
      rintro r1 σz (⟨rfl, hs, hfc⟩ | ⟨rfl, hs, hfc⟩)
      · rw [hs]
        show jw_W (js_S n) _ md_35 12 [some (.inr (.inr 57)), some (.inl 0), some (.inl m), some (.inl k)] [.inl 1] σ _
        refine jw_W_if rfl (by unfold jw_rg; omega) (fun hc2 => ?_) (fun hc2 => ?_)
        · exact absurd hc2 (show ¬ ((1 : Int) = 0) by omega)
        · clear hc2
          refine jw_W_n 1 (i' := 14) (ls' := [some (.inr (.inr 57)), some (.inl 0), some (.inl m), some (.inl k)]) (st' := [.inl 0]) rfl ?_
          refine jw_W_if rfl (by unfold jw_rg; omega) (fun hc3 => ?_) (fun hc3 => ?_)
          · clear hc3
            refine jw_W_n 3 (i' := 4) (ls' := [some (.inr (.inr 57)), some (.inl 0), some (.inl (m + 1)), some (.inl (k + 1))]) (st' := []) rfl ?_
            exact ih (by omega) HZ (jx_cn_yes k0 H (hgz.1.mp hfc))
          · exact absurd hc3 (show ¬ ¬ ((0 : Int) = 0) by omega)
      · rw [hs]
        show jw_W (js_S n) _ md_35 12 [some (.inr (.inr 57)), some (.inl 0), some (.inl m), some (.inl k)] [.inl 0] σ _
        refine jw_W_if rfl (by unfold jw_rg; omega) (fun hc4 => ?_) (fun hc4 => ?_)
        · clear hc4
          refine jw_W_n 2 (i' := 4) (ls' := [some (.inr (.inr 57)), some (.inl 0), some (.inl m), some (.inl (k + 1))]) (st' := []) rfl ?_
          exact ih (by omega) HZ (jx_cn_no k0 H (fun hh => hfc (hgz.1.mpr hh)))
        · exact absurd hc4 (show ¬ ¬ ((0 : Int) = 0) by omega)
theorem jx_faces0 {n : Nat} {σ : jw_H} {o : Nat} {C : List (ge_R × Int)} (hK : jx_K n o C σ)  : jw_T (js_S n) 8 35 [.inr (.inr 57), .inl 0] σ (fun r σ' => r = some (.inl (jx_cn (fun c => jm_fc σ c) (σ 103 5 + 2 * σ 103 3).toNat)) ∧ jx_fy σ σ') := by
  refine jw_T_of (D := 7) (M := mm_35) rfl (Nat.le_of_ble_eq_true rfl) (ls0 := [some (.inr (.inr 57)), some (.inl 0), none, none]) rfl ?_ (by rintro _ _ ⟨rfl, -⟩; rfl)
  have hI := hK.1
  obtain ⟨hto, hfo, hp, hP, e0, e1, e2, hPm, hcb, c0, p0, -⟩ := jx_I0_x hI
  have ho := hp.1
  have hq := hP.1
  have hw := hP.2.1
  have hq2 := hP.2.2.1
  have hcn := hcb.1
  refine jw_W_n 4 (i' := 4) (ls' := [some (.inr (.inr 57)), some (.inl 0), some (.inl 0), some (.inl 0)]) (st' := []) rfl ?_
  exact jx_faces0_loop hK (σ 103 5 + 2 * σ 103 3).toNat (k := 0) (m := 0) (by omega) (by omega) (jx_fy_rf σ) rfl
theorem jm_faces1_loop {n : Nat} {σ0 : jw_H} {C : List (ge_R × Int)} (hKN0 : jm_KN σ0 C) : ∀ (f : Nat) {σ : jw_H} {k m : Int}, 0 ≤ k → k + f = σ0 103 5 + 2 * σ0 103 3 → jm_fz σ0 σ → m = jx_cn (fun c => jm_gf σ0 c) k.toNat → jw_W (js_S n) 7 md_278 4 [some (.inr (.inr 103)), some (.inl 1), some (.inl m), some (.inl k)] [] σ (fun r σ' => r = some (.inl (jx_cn (fun c => jm_gf σ0 c) (σ0 103 5 + 2 * σ0 103 3).toNat)) ∧ jm_fz σ0 σ')
  | f, σ, k, m, k0, hk, HZ, H => by
    have ih : ∀ {σ' : jw_H} {m' : Int}, k < σ0 103 5 + 2 * σ0 103 3 → jm_fz σ0 σ' → m' = jx_cn (fun c => jm_gf σ0 c) (k + 1).toNat → jw_W (js_S n) 7 md_278 4 [some (.inr (.inr 103)), some (.inl 1), some (.inl m'), some (.inl (k + 1))] [] σ' (fun r σ' => r = some (.inl (jx_cn (fun c => jm_gf σ0 c) (σ0 103 5 + 2 * σ0 103 3).toNat)) ∧ jm_fz σ0 σ') := by
      intro σ' m' h1 h2 h3
      match f, hk with
      | 0, hk => omega
      | f + 1, hk => exact jm_faces1_loop hKN0 f (by omega) (by omega) h2 h3
    have hP0 := hKN0.1.1
    have hKN := jm_KN_fz HZ hKN0
    have hgz := jm_gf_z HZ hP0 k
    have e5 : σ 103 5 = σ0 103 5 := HZ.2.1 5 (by omega)
    have e3 : σ 103 3 = σ0 103 3 := HZ.2.1 3 (by omega)
    have hcb := (jm_kw_cbd hKN.1).2 σ (jm_fk_rf σ)
    have hcn := hcb.1
    have hPm := hKN.1.1
    have hqq := hPm.1
    have hww := hPm.2.1
    have hkk := hPm.2.2.1
    have hg57 := hKN.2.2.1.1
    have hg58 := hKN.2.2.2.1.1
    refine jw_W_n 2 (i' := 6) (ls' := [some (.inr (.inr 103)), some (.inl 1), some (.inl m), some (.inl k)]) (st' := [.inr (.inr 103), .inl k]) rfl ?_
    refine jw_W_call (as := [.inr (.inr 103)]) (rest := [.inl k]) rfl rfl rfl rfl (Nat.le_of_ble_eq_true rfl) (.inr rfl) (jm_planes hPm) (by omega) ?_ rfl
    rintro r1 σz ⟨rfl, hs⟩
    rw [hs, e5, e3]
    show jw_W (js_S n) _ md_278 7 [some (.inr (.inr 103)), some (.inl 1), some (.inl m), some (.inl k)] [.inl (σ0 103 5 + 2 * σ0 103 3), .inl k] σ _
    refine jw_W_ic rfl (by unfold jw_rg; omega) (by unfold jw_rg; omega) (fun hc1 => ?_) (fun hc1 => ?_)
    · have hc1 : k ≥ (σ0 103 5 + 2 * σ0 103 3) := hc1
      refine jw_W_n 1 (i' := 26) (ls' := [some (.inr (.inr 103)), some (.inl 1), some (.inl m), some (.inl k)]) (st' := [.inl m]) rfl ?_
      refine jw_W_ir rfl ?_
      have hkl : k = σ0 103 5 + 2 * σ0 103 3 := by omega
      subst hkl
      exact ⟨by rw [H], HZ⟩
    · have hc1 : ¬ (k ≥ (σ0 103 5 + 2 * σ0 103 3)) := hc1
      refine jw_W_n 1 (i' := 9) (ls' := [some (.inr (.inr 103)), some (.inl 1), some (.inl m), some (.inl k)]) (st' := [.inl 1]) rfl ?_
      refine jw_W_if rfl (by unfold jw_rg; omega) (fun hc2 => ?_) (fun hc2 => ?_)
      · exact absurd hc2 (show ¬ ((1 : Int) = 0) by omega)
      · clear hc2
        refine jw_W_n 2 (i' := 12) (ls' := [some (.inr (.inr 103)), some (.inl 1), some (.inl m), some (.inl k)]) (st' := [.inl k, .inr (.inr 103)]) rfl ?_
        refine jw_W_call (as := [.inr (.inr 103), .inl k]) (rest := []) rfl rfl rfl rfl (Nat.le_of_ble_eq_true rfl) (.inr rfl) (jm_isGoodFace hKN k0 (by omega)) (by omega) ?_ rfl
        rintro r1 σ1 ⟨v, rfl, hf, hv⟩
        have hv01 : v = 0 ∨ v = 1 := by rcases hv with ⟨e, -⟩ | ⟨e, -⟩ <;> omega
        have HZ1 := jm_fz_tr hP0 HZ hf
        show jw_W (js_S n) _ md_278 13 [some (.inr (.inr 103)), some (.inl 1), some (.inl m), some (.inl k)] [.inl v] σ1 _
        refine jw_W_if rfl (by unfold jw_rg; omega) (fun hc3 => ?_) (fun hc3 => ?_)
        · have hc3 : v = 0 := hc3
          refine jw_W_n 2 (i' := 4) (ls' := [some (.inr (.inr 103)), some (.inl 1), some (.inl m), some (.inl (k + 1))]) (st' := []) rfl ?_
          exact ih (by omega) HZ1 (jx_cn_no k0 H (fun hh => (hv.resolve_left (fun hh => by omega)).2 (hgz.2.mpr hh)))
        · have hc3 : ¬ (v = 0) := hc3
          refine jw_W_n 7 (i' := 4) (ls' := [some (.inr (.inr 103)), some (.inl 1), some (.inl (m + 1)), some (.inl (k + 1))]) (st' := []) rfl ?_
          exact ih (by omega) HZ1 (jx_cn_yes k0 H (hgz.2.mp (hv.resolve_right (fun hh => by omega)).2))
theorem jm_faces1 {n : Nat} {σ : jw_H} {C : List (ge_R × Int)} (hKN : jm_KN σ C)  : jw_T (js_S n) 8 278 [.inr (.inr 103), .inl 1] σ (fun r σ' => r = some (.inl (jx_cn (fun c => jm_gf σ c) (σ 103 5 + 2 * σ 103 3).toNat)) ∧ jm_fz σ σ') := by
  refine jw_T_of (D := 7) (M := mm_278) rfl (Nat.le_of_ble_eq_true rfl) (ls0 := [some (.inr (.inr 103)), some (.inl 1), none, none]) rfl ?_ (by rintro _ _ ⟨rfl, -⟩; rfl)
  have hcb := (jm_kw_cbd hKN.1).2 σ (jm_fk_rf σ)
  have hcn := hcb.1
  have hPm := hKN.1.1
  have hqq := hPm.1
  have hww := hPm.2.1
  have hkk := hPm.2.2.1
  have hg57 := hKN.2.2.1.1
  have hg58 := hKN.2.2.2.1.1
  refine jw_W_n 4 (i' := 4) (ls' := [some (.inr (.inr 103)), some (.inl 1), some (.inl 0), some (.inl 0)]) (st' := []) rfl ?_
  exact jm_faces1_loop hKN (σ 103 5 + 2 * σ 103 3).toNat (k := 0) (m := 0) (by omega) (by omega) (jm_fz_rf hKN) rfl
theorem jx_faces1_loop {n : Nat} {σ0 : jw_H} {o : Nat} {C : List (ge_R × Int)} (hK0 : jx_K n o C σ0) : ∀ (f : Nat) {σ : jw_H} {k m : Int}, 0 ≤ k → k + f = σ0 103 5 + 2 * σ0 103 3 → jx_fy σ0 σ → m = jx_cn (fun c => jm_gf σ0 c) k.toNat → jw_W (js_S n) 7 md_35 4 [some (.inr (.inr 57)), some (.inl 1), some (.inl m), some (.inl k)] [] σ (fun r σ' => r = some (.inl (jx_cn (fun c => jm_gf σ0 c) (σ0 103 5 + 2 * σ0 103 3).toNat)) ∧ jx_fy σ0 σ')
  | f, σ, k, m, k0, hk, HZ, H => by
    have ih : ∀ {σ' : jw_H} {m' : Int}, k < σ0 103 5 + 2 * σ0 103 3 → jx_fy σ0 σ' → m' = jx_cn (fun c => jm_gf σ0 c) (k + 1).toNat → jw_W (js_S n) 7 md_35 4 [some (.inr (.inr 57)), some (.inl 1), some (.inl m'), some (.inl (k + 1))] [] σ' (fun r σ' => r = some (.inl (jx_cn (fun c => jm_gf σ0 c) (σ0 103 5 + 2 * σ0 103 3).toNat)) ∧ jx_fy σ0 σ') := by
      intro σ' m' h1 h2 h3
      match f, hk with
      | 0, hk => omega
      | f + 1, hk => exact jx_faces1_loop hK0 f (by omega) (by omega) h2 h3
    have hP0 := hK0.2.1.1.1
    have hme := jx_fx_me (jx_fy_x HZ)
    have hK := jx_K_y HZ hK0
    have hgz := jm_gf_me hme hP0 k
    have e5 : σ 103 5 = σ0 103 5 := by rw [hme 103 (by omega)]
    have e3 : σ 103 3 = σ0 103 3 := by rw [hme 103 (by omega)]
    have hI := hK.1
    obtain ⟨hto, hfo, hp, hP, e0, e1, e2, hPm, hcb, c0, p0, -⟩ := jx_I0_x hI
    have ho := hp.1
    have hq := hP.1
    have hw := hP.2.1
    have hq2 := hP.2.2.1
    have hcn := hcb.1
    refine jw_W_n 2 (i' := 6) (ls' := [some (.inr (.inr 57)), some (.inl 1), some (.inl m), some (.inl k)]) (st' := [.inr (.inr 57), .inl k]) rfl ?_
    refine jw_W_gf rfl rfl rfl ?_
    show jw_W (js_S n) _ md_35 7 [some (.inr (.inr 57)), some (.inl 1), some (.inl m), some (.inl k)] [.inr (.inr ((σ 57 6).toNat)), .inl k] σ _
    rw [hfo]
    refine jw_W_call (as := [.inr (.inr o)]) (rest := [.inl k]) rfl rfl rfl rfl (Nat.le_of_ble_eq_true rfl) (.inr (jx_rc hp.2.1)) (jx_planes hp) (by omega) ?_ rfl
    rintro r1 σz ⟨rfl, hs⟩
    rw [hs, e0, e2, e5, e3]
    show jw_W (js_S n) _ md_35 8 [some (.inr (.inr 57)), some (.inl 1), some (.inl m), some (.inl k)] [.inl (σ0 103 5 + 2 * σ0 103 3), .inl k] σ _
    refine jw_W_ic rfl (by unfold jw_rg; omega) (by unfold jw_rg; omega) (fun hc1 => ?_) (fun hc1 => ?_)
    · have hc1 : k ≥ (σ0 103 5 + 2 * σ0 103 3) := hc1
      refine jw_W_n 1 (i' := 23) (ls' := [some (.inr (.inr 57)), some (.inl 1), some (.inl m), some (.inl k)]) (st' := [.inl m]) rfl ?_
      refine jw_W_ir rfl ?_
      have hkl : k = σ0 103 5 + 2 * σ0 103 3 := by omega
      subst hkl
      exact ⟨by rw [H], HZ⟩
    · have hc1 : ¬ (k ≥ (σ0 103 5 + 2 * σ0 103 3)) := hc1
      refine jw_W_n 2 (i' := 11) (ls' := [some (.inr (.inr 57)), some (.inl 1), some (.inl m), some (.inl k)]) (st' := [.inl k, .inr (.inr 57)]) rfl ?_
      refine jw_W_call (as := [.inr (.inr 57), .inl k]) (rest := []) rfl rfl rfl rfl (Nat.le_of_ble_eq_true rfl) (.inr rfl) (jx_isFace hK k0 (by omega)) (by omega) ?_ rfl
      rintro r1 σz (⟨rfl, hs, hfc⟩ | ⟨rfl, hs, hfc⟩)
      · rw [hs]
        show jw_W (js_S n) _ md_35 12 [some (.inr (.inr 57)), some (.inl 1), some (.inl m), some (.inl k)] [.inl 1] σ _
        refine jw_W_if rfl (by unfold jw_rg; omega) (fun hc2 => ?_) (fun hc2 => ?_)
        · exact absurd hc2 (show ¬ ((1 : Int) = 0) by omega)
        · clear hc2
          refine jw_W_n 1 (i' := 14) (ls' := [some (.inr (.inr 57)), some (.inl 1), some (.inl m), some (.inl k)]) (st' := [.inl 1]) rfl ?_
          refine jw_W_if rfl (by unfold jw_rg; omega) (fun hc3 => ?_) (fun hc3 => ?_)
          · exact absurd hc3 (show ¬ ((1 : Int) = 0) by omega)
          · clear hc3
            refine jw_W_n 2 (i' := 17) (ls' := [some (.inr (.inr 57)), some (.inl 1), some (.inl m), some (.inl k)]) (st' := [.inl k, .inr (.inr 57)]) rfl ?_
            refine jw_W_call (as := [.inr (.inr 57), .inl k]) (rest := []) rfl rfl rfl rfl (Nat.le_of_ble_eq_true rfl) (.inr rfl) (jx_isEfficientFace hK k0 (by omega) hfc) (by omega) ?_ rfl
            rintro r1 σ1 ⟨v, rfl, hf, hv⟩
            have hv01 : v = 0 ∨ v = 1 := by rcases hv with ⟨e, -⟩ | ⟨e, -⟩ <;> omega
            have HZ1 := jx_fy_tr HZ hf
            show jw_W (js_S n) _ md_35 18 [some (.inr (.inr 57)), some (.inl 1), some (.inl m), some (.inl k)] [.inl v] σ1 _
            refine jw_W_if rfl (by unfold jw_rg; omega) (fun hc4 => ?_) (fun hc4 => ?_)
            · have hc4 : v = 0 := hc4
              refine jw_W_n 2 (i' := 4) (ls' := [some (.inr (.inr 57)), some (.inl 1), some (.inl m), some (.inl (k + 1))]) (st' := []) rfl ?_
              exact ih (by omega) HZ1 (jx_cn_no k0 H (fun hh => by first | exact hfc (hgz.1.mpr hh.1) | exact (hgz.2.mpr hh).2 (hv.resolve_left (fun hh => by omega)).2))
            · have hc4 : ¬ (v = 0) := hc4
              refine jw_W_n 3 (i' := 4) (ls' := [some (.inr (.inr 57)), some (.inl 1), some (.inl (m + 1)), some (.inl (k + 1))]) (st' := []) rfl ?_
              exact ih (by omega) HZ1 (jx_cn_yes k0 H (hgz.2.mp ⟨hfc, (hv.resolve_right (fun hh => by omega)).2⟩))
      · rw [hs]
        show jw_W (js_S n) _ md_35 12 [some (.inr (.inr 57)), some (.inl 1), some (.inl m), some (.inl k)] [.inl 0] σ _
        refine jw_W_if rfl (by unfold jw_rg; omega) (fun hc5 => ?_) (fun hc5 => ?_)
        · clear hc5
          refine jw_W_n 2 (i' := 4) (ls' := [some (.inr (.inr 57)), some (.inl 1), some (.inl m), some (.inl (k + 1))]) (st' := []) rfl ?_
          exact ih (by omega) HZ (jx_cn_no k0 H (fun hh => by first | exact hfc (hgz.1.mpr hh.1) | exact (hgz.2.mpr hh).2 (hv.resolve_left (fun hh => by omega)).2))
        · exact absurd hc5 (show ¬ ¬ ((0 : Int) = 0) by omega)
theorem jx_faces1 {n : Nat} {σ : jw_H} {o : Nat} {C : List (ge_R × Int)} (hK : jx_K n o C σ)  : jw_T (js_S n) 8 35 [.inr (.inr 57), .inl 1] σ (fun r σ' => r = some (.inl (jx_cn (fun c => jm_gf σ c) (σ 103 5 + 2 * σ 103 3).toNat)) ∧ jx_fy σ σ') := by
  refine jw_T_of (D := 7) (M := mm_35) rfl (Nat.le_of_ble_eq_true rfl) (ls0 := [some (.inr (.inr 57)), some (.inl 1), none, none]) rfl ?_ (by rintro _ _ ⟨rfl, -⟩; rfl)
  have hI := hK.1
  obtain ⟨hto, hfo, hp, hP, e0, e1, e2, hPm, hcb, c0, p0, -⟩ := jx_I0_x hI
  have ho := hp.1
  have hq := hP.1
  have hw := hP.2.1
  have hq2 := hP.2.2.1
  have hcn := hcb.1
  refine jw_W_n 4 (i' := 4) (ls' := [some (.inr (.inr 57)), some (.inl 1), some (.inl 0), some (.inl 0)]) (st' := []) rfl ?_
  exact jx_faces1_loop hK (σ 103 5 + 2 * σ 103 3).toNat (k := 0) (m := 0) (by omega) (by omega) (jx_fy_rf σ) rfl

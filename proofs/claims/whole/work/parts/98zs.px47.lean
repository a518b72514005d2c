/-! ===== ranked ===== -/
/-- ahead of a corner by a wish, of the efficient ones -/
def jm_ah (σ : jw_H) (w i c : Int) : Prop := jm_good σ c ∧ (jm_wl σ w i c ∨ (¬ jm_wl σ w c i ∧ c < i))
noncomputable def jm_rkn (σ : jw_H) (w i : Int) : Int := jx_cn (fun c => jm_ah σ w i c) (σ 103 56).toNat
def jm_rkq (σ : jw_H) (w k c : Int) : Prop := jm_good σ c ∧ jm_rkn σ w c = k
def jm_rkr (σ : jw_H) (w k v : Int) : Prop := (v = -4 ∧ ∀ c, 0 ≤ c → c < σ 103 56 → ¬ jm_rkq σ w k c) ∨ ((0 ≤ v ∧ v < σ 103 56) ∧ jm_rkq σ w k v ∧ ∀ c, 0 ≤ c → c < v → ¬ jm_rkq σ w k c)
/-- the answers of ranked -/
def jm_rka (σ : jw_H) (w k v : Int) : Prop := (v = -1 ∧ ¬ ((0 ≤ w ∧ w < σ 103 4) ∧ 0 ≤ k)) ∨ (((0 ≤ w ∧ w < σ 103 4) ∧ 0 ≤ k) ∧ jm_rkr σ w k v)
theorem jm_rka_uq {σ : jw_H} {w k u v : Int} (h1 : jm_rka σ w k u) (h2 : jm_rka σ w k v) : u = v := by
  rcases h1 with ⟨e1, a1⟩ | ⟨a1, ⟨e1, b1⟩ | ⟨b1, c1, d1⟩⟩ <;> rcases h2 with ⟨e2, a2⟩ | ⟨a2, ⟨e2, b2⟩ | ⟨b2, c2, d2⟩⟩ <;> first | exact e1.trans e2.symm | exact absurd a1 a2 | exact absurd a2 a1 | exact absurd c2 (b1 v b2.1 b2.2) | exact absurd c1 (b2 u b1.1 b1.2) | (rcases (show u < v ∨ u = v ∨ v < u by omega) with h | h | h; exact absurd c1 (d2 u b1.1 h); exact h; exact absurd c2 (d1 v b2.1 h))
theorem jm_rka_me {σ0 σ : jw_H} (h : jx_me σ0 σ) (w k v : Int) : jm_rka σ w k v ↔ jm_rka σ0 w k v := by
  unfold jm_rka jm_rkr jm_rkq jm_rkn jm_ah jm_wl jm_good jm_W
  simp only [jx_me_ct h, h 103 (by omega), h 104 (by omega), h 135 (by omega)]
theorem jx_eah_loop {n : Nat} {σ : jw_H} {o : Nat} {C : List (ge_R × Int)} (hJ : jx_KJ n o C σ) {i w : Int} (i0 : 0 ≤ i) (i1 : i < σ 103 56) (w0 : 0 ≤ w) (w1 : w < σ 103 4) : ∀ (f : Nat) {j m : Int} {a5 : Option jw_V}, 0 ≤ j → j + f = σ 103 56 → m = jx_cn (fun c => jm_ah σ w i c) j.toNat → jw_W (js_S n) 3 md_18 4 [some (.inr (.inr 57)), some (.inl i), some (.inl w), some (.inl m), some (.inl j), a5, none] [] σ (fun r σ' => r = some (.inl (jx_cn (fun c => jm_ah σ w i c) (σ 103 56).toNat)) ∧ σ' = σ)
  | f, j, m, a5, j0, hk, H => by
    have ih : ∀ {m' : Int} {a5 : Option jw_V}, j < σ 103 56 → m' = jx_cn (fun c => jm_ah σ w i c) (j + 1).toNat → jw_W (js_S n) 3 md_18 4 [some (.inr (.inr 57)), some (.inl i), some (.inl w), some (.inl m'), some (.inl (j + 1)), a5, none] [] σ (fun r σ' => r = some (.inl (jx_cn (fun c => jm_ah σ w i c) (σ 103 56).toNat)) ∧ σ' = σ) := by
      intro m' a5 h1 h2
      match f, hk with
      | 0, hk => omega
      | f + 1, hk => exact jx_eah_loop hJ i0 i1 w0 w1 f (by omega) (by omega) h2
    have hI := hJ.1
    have hKN := hJ.2.1
    have hjd := hJ.2.2.2
    obtain ⟨hto, hfo, hp, hP, e0, e1, e2, hPm, hcb, c0, p0, -⟩ := jx_I0_x hI
    have ho := hp.1
    have hq := hP.1
    have hw := hP.2.1
    have hq2 := hP.2.2.1
    have hcn := hcb.1
    refine jw_W_n 2 (i' := 6) (ls' := [some (.inr (.inr 57)), some (.inl i), some (.inl w), some (.inl m), some (.inl j), a5, none]) (st' := [.inr (.inr 57), .inl j]) rfl ?_
    refine jw_W_gf rfl rfl rfl ?_
    show jw_W (js_S n) _ md_18 7 [some (.inr (.inr 57)), some (.inl i), some (.inl w), some (.inl m), some (.inl j), a5, none] [.inl (σ 57 0), .inl j] σ _
    refine jw_W_ic rfl (by unfold jw_rg; omega) (by unfold jw_rg; omega) (fun hc1 => ?_) (fun hc1 => ?_)
    · have hc1 : j ≥ (σ 57 0) := hc1
      refine jw_W_n 1 (i' := 36) (ls' := [some (.inr (.inr 57)), some (.inl i), some (.inl w), some (.inl m), some (.inl j), a5, none]) (st' := [.inl m]) rfl ?_
      refine jw_W_ir rfl ?_
      have hkl : j = σ 103 56 := by omega
      subst hkl
      exact ⟨by rw [H], rfl⟩
    · have hc1 : ¬ (j ≥ (σ 57 0)) := hc1
      refine jw_W_n 2 (i' := 10) (ls' := [some (.inr (.inr 57)), some (.inl i), some (.inl w), some (.inl m), some (.inl j), a5, none]) (st' := [.inl i, .inl j]) rfl ?_
      refine jw_W_ic rfl (by unfold jw_rg; omega) (by unfold jw_rg; omega) (fun hc2 => ?_) (fun hc2 => ?_)
      · have hc2 : j = i := hc2
        refine jw_W_n 2 (i' := 4) (ls' := [some (.inr (.inr 57)), some (.inl i), some (.inl w), some (.inl m), some (.inl (j + 1)), a5, none]) (st' := []) rfl ?_
        exact ih (by omega) (jx_cn_no j0 H (fun hh => by first | exact absurd hh.1 hg | (have h2 := hh.2; unfold jm_wl at h2; omega) | (have h2 := hh.2; have e : j = i := (by omega); rw [e] at h2; unfold jm_wl at h2; omega)))
      · have hc2 : ¬ (j = i) := hc2
        refine jw_W_n 2 (i' := 13) (ls' := [some (.inr (.inr 57)), some (.inl i), some (.inl w), some (.inl m), some (.inl j), a5, none]) (st' := [.inl j, .inr (.inr 57)]) rfl ?_
        refine jw_W_call (as := [.inr (.inr 57), .inl j]) (rest := []) rfl rfl rfl rfl (Nat.le_of_ble_eq_true rfl) (.inr rfl) (jx_isEfficient hJ j0 (by omega)) (by omega) ?_ rfl
        rintro r1 σz (⟨rfl, hs, hg⟩ | ⟨rfl, hs, hg⟩)
        · rw [hs]
          show jw_W (js_S n) _ md_18 14 [some (.inr (.inr 57)), some (.inl i), some (.inl w), some (.inl m), some (.inl j), a5, none] [.inl 1] σ _
          refine jw_W_if rfl (by unfold jw_rg; omega) (fun hc3 => ?_) (fun hc3 => ?_)
          · exact absurd hc3 (show ¬ ((1 : Int) = 0) by omega)
          · clear hc3
            refine jw_W_n 4 (i' := 19) (ls' := [some (.inr (.inr 57)), some (.inl i), some (.inl w), some (.inl m), some (.inl j), a5, none]) (st' := [.inl w, .inl i, .inl j, .inr (.inr 57)]) rfl ?_
            refine jw_W_call (as := [.inr (.inr 57), .inl j, .inl i, .inl w]) (rest := []) rfl rfl rfl rfl (Nat.le_of_ble_eq_true rfl) (.inr rfl) (jx_lead hI j0 (by omega) i0 i1 w0 w1) (by omega) ?_ rfl
            rintro r1 σz ⟨rfl, hs⟩
            rw [hs]
            have hl1 := jm_f_w hPm hcb (k := w) (i := j) (j := i) w0 w1 j0 (by omega) i0 i1
            have hl2 := jm_f_w hPm hcb (k := w) (i := i) (j := j) w0 w1 i0 i1 j0 (by omega)
            show jw_W (js_S n) _ md_18 20 [some (.inr (.inr 57)), some (.inl i), some (.inl w), some (.inl m), some (.inl j), a5, none] [.inr (.inl (ge_f (jm_W σ w) (jm_ct σ j) * σ 135 i - ge_f (jm_W σ w) (jm_ct σ i) * σ 135 j))] σ _
            refine jw_W_n 3 (i' := 23) (ls' := [some (.inr (.inr 57)), some (.inl i), some (.inl w), some (.inl m), some (.inl j), some (.inr (.inl (ge_f (jm_W σ w) (jm_ct σ j) * σ 135 i - ge_f (jm_W σ w) (jm_ct σ i) * σ 135 j))), none]) (st' := [.inr (.inl 0), .inr (.inl (ge_f (jm_W σ w) (jm_ct σ j) * σ 135 i - ge_f (jm_W σ w) (jm_ct σ i) * σ 135 j))]) rfl ?_
            refine jw_W_lc rfl rfl (by unfold jw_rgl; omega) (by unfold jw_rgl; omega) (fun hc4 => ?_) (fun hc4 => ?_)
            · have hc4 : (ge_f (jm_W σ w) (jm_ct σ j) * σ 135 i - ge_f (jm_W σ w) (jm_ct σ i) * σ 135 j) > 0 := hc4
              refine jw_W_n 3 (i' := 4) (ls' := [some (.inr (.inr 57)), some (.inl i), some (.inl w), some (.inl (m + 1)), some (.inl (j + 1)), some (.inr (.inl (ge_f (jm_W σ w) (jm_ct σ j) * σ 135 i - ge_f (jm_W σ w) (jm_ct σ i) * σ 135 j))), none]) (st' := []) rfl ?_
              exact ih (by omega) (jx_cn_yes j0 H (⟨hg, by unfold jm_wl; omega⟩))
            · have hc4 : ¬ ((ge_f (jm_W σ w) (jm_ct σ j) * σ 135 i - ge_f (jm_W σ w) (jm_ct σ i) * σ 135 j) > 0) := hc4
              refine jw_W_n 2 (i' := 27) (ls' := [some (.inr (.inr 57)), some (.inl i), some (.inl w), some (.inl m), some (.inl j), some (.inr (.inl (ge_f (jm_W σ w) (jm_ct σ j) * σ 135 i - ge_f (jm_W σ w) (jm_ct σ i) * σ 135 j))), none]) (st' := [.inr (.inl 0), .inr (.inl (ge_f (jm_W σ w) (jm_ct σ j) * σ 135 i - ge_f (jm_W σ w) (jm_ct σ i) * σ 135 j))]) rfl ?_
              refine jw_W_lc rfl rfl (by unfold jw_rgl; omega) (by unfold jw_rgl; omega) (fun hc5 => ?_) (fun hc5 => ?_)
              · have hc5 : (ge_f (jm_W σ w) (jm_ct σ j) * σ 135 i - ge_f (jm_W σ w) (jm_ct σ i) * σ 135 j) ≠ 0 := hc5
                refine jw_W_n 2 (i' := 4) (ls' := [some (.inr (.inr 57)), some (.inl i), some (.inl w), some (.inl m), some (.inl (j + 1)), some (.inr (.inl (ge_f (jm_W σ w) (jm_ct σ j) * σ 135 i - ge_f (jm_W σ w) (jm_ct σ i) * σ 135 j))), none]) (st' := []) rfl ?_
                exact ih (by omega) (jx_cn_no j0 H (fun hh => by first | exact absurd hh.1 hg | (have h2 := hh.2; unfold jm_wl at h2; omega) | (have h2 := hh.2; have e : j = i := (by omega); rw [e] at h2; unfold jm_wl at h2; omega)))
              · have hc5 : (ge_f (jm_W σ w) (jm_ct σ j) * σ 135 i - ge_f (jm_W σ w) (jm_ct σ i) * σ 135 j) = 0 := Classical.not_not.mp hc5
                refine jw_W_n 2 (i' := 31) (ls' := [some (.inr (.inr 57)), some (.inl i), some (.inl w), some (.inl m), some (.inl j), some (.inr (.inl (ge_f (jm_W σ w) (jm_ct σ j) * σ 135 i - ge_f (jm_W σ w) (jm_ct σ i) * σ 135 j))), none]) (st' := [.inl i, .inl j]) rfl ?_
                refine jw_W_ic rfl (by unfold jw_rg; omega) (by unfold jw_rg; omega) (fun hc6 => ?_) (fun hc6 => ?_)
                · have hc6 : j ≥ i := hc6
                  refine jw_W_n 2 (i' := 4) (ls' := [some (.inr (.inr 57)), some (.inl i), some (.inl w), some (.inl m), some (.inl (j + 1)), some (.inr (.inl (ge_f (jm_W σ w) (jm_ct σ j) * σ 135 i - ge_f (jm_W σ w) (jm_ct σ i) * σ 135 j))), none]) (st' := []) rfl ?_
                  exact ih (by omega) (jx_cn_no j0 H (fun hh => by first | exact absurd hh.1 hg | (have h2 := hh.2; unfold jm_wl at h2; omega) | (have h2 := hh.2; have e : j = i := (by omega); rw [e] at h2; unfold jm_wl at h2; omega)))
                · have hc6 : ¬ (j ≥ i) := hc6
                  refine jw_W_n 3 (i' := 4) (ls' := [some (.inr (.inr 57)), some (.inl i), some (.inl w), some (.inl (m + 1)), some (.inl (j + 1)), some (.inr (.inl (ge_f (jm_W σ w) (jm_ct σ j) * σ 135 i - ge_f (jm_W σ w) (jm_ct σ i) * σ 135 j))), none]) (st' := []) rfl ?_
                  exact ih (by omega) (jx_cn_yes j0 H (⟨hg, by unfold jm_wl; omega⟩))
        · rw [hs]
          show jw_W (js_S n) _ md_18 14 [some (.inr (.inr 57)), some (.inl i), some (.inl w), some (.inl m), some (.inl j), a5, none] [.inl 0] σ _
          refine jw_W_if rfl (by unfold jw_rg; omega) (fun hc7 => ?_) (fun hc7 => ?_)
          · clear hc7
            refine jw_W_n 2 (i' := 4) (ls' := [some (.inr (.inr 57)), some (.inl i), some (.inl w), some (.inl m), some (.inl (j + 1)), a5, none]) (st' := []) rfl ?_
            exact ih (by omega) (jx_cn_no j0 H (fun hh => by first | exact absurd hh.1 hg | (have h2 := hh.2; unfold jm_wl at h2; omega) | (have h2 := hh.2; have e : j = i := (by omega); rw [e] at h2; unfold jm_wl at h2; omega)))
          · exact absurd hc7 (show ¬ ¬ ((0 : Int) = 0) by omega)
theorem jx_efficientAhead {n : Nat} {σ : jw_H} {o : Nat} {C : List (ge_R × Int)} (hJ : jx_KJ n o C σ) {i w : Int} (i0 : 0 ≤ i) (i1 : i < σ 103 56) (w0 : 0 ≤ w) (w1 : w < σ 103 4) : jw_T (js_S n) 4 18 [.inr (.inr 57), .inl i, .inl w] σ (fun r σ' => r = some (.inl (jm_rkn σ w i)) ∧ σ' = σ) := by
  refine jw_T_of (D := 3) (M := mm_18) rfl (Nat.le_of_ble_eq_true rfl) (ls0 := [some (.inr (.inr 57)), some (.inl i), some (.inl w), none, none, none, none]) rfl ?_ (by rintro _ _ ⟨rfl, -⟩; rfl)
  have hI := hJ.1
  have hKN := hJ.2.1
  have hjd := hJ.2.2.2
  obtain ⟨hto, hfo, hp, hP, e0, e1, e2, hPm, hcb, c0, p0, -⟩ := jx_I0_x hI
  have ho := hp.1
  have hq := hP.1
  have hw := hP.2.1
  have hq2 := hP.2.2.1
  have hcn := hcb.1
  refine jw_W_n 4 (i' := 4) (ls' := [some (.inr (.inr 57)), some (.inl i), some (.inl w), some (.inl 0), some (.inl 0), none, none]) (st' := []) rfl ?_
  exact jx_eah_loop hJ i0 i1 w0 w1 (σ 103 56).toNat (j := 0) (m := 0) (by omega) (by omega) rfl
theorem jx_rkd_loop {n : Nat} {σ : jw_H} {D : Nat} (hD : 4 ≤ D) {o : Nat} {C : List (ge_R × Int)} (hJ : jx_KJ n o C σ) {w k : Int} (w0 : 0 ≤ w) (w1 : w < σ 103 4) (rk : jw_rg k) : ∀ (f : Nat) {i : Int}, 0 ≤ i → i + f = σ 103 56 → (∀ c, 0 ≤ c → c < i → ¬ jm_rkq σ w k c) → jw_W (js_S n) D md_152 13 [some (.inr (.inr 13)), some (.inl w), some (.inl k), some (.inl i)] [] σ (fun r σ' => ∃ v, r = some (.inl v) ∧ σ' = σ ∧ jm_rkr σ w k v)
  | f, i, i0, hk, H => by
    have ih : i < σ 103 56 → (∀ c, 0 ≤ c → c < i + 1 → ¬ jm_rkq σ w k c) → jw_W (js_S n) D md_152 13 [some (.inr (.inr 13)), some (.inl w), some (.inl k), some (.inl (i + 1))] [] σ (fun r σ' => ∃ v, r = some (.inl v) ∧ σ' = σ ∧ jm_rkr σ w k v) := by
      intro h1 h2
      match f, hk with
      | 0, hk => omega
      | f + 1, hk => exact jx_rkd_loop hD hJ w0 w1 rk f (by omega) (by omega) h2
    unfold jw_rg at rk
    have hI := hJ.1
    have hKN := hJ.2.1
    have hjd := hJ.2.2.2
    obtain ⟨hto, hfo, hp, hP, e0, e1, e2, hPm, hcb, c0, p0, -⟩ := jx_I0_x hI
    have ho := hp.1
    have hq := hP.1
    have hw := hP.2.1
    have hq2 := hP.2.2.1
    have hcn := hcb.1
    refine jw_W_n 2 (i' := 15) (ls' := [some (.inr (.inr 13)), some (.inl w), some (.inl k), some (.inl i)]) (st' := [.inr (.inr 13), .inl i]) rfl ?_
    refine jw_W_gf rfl rfl rfl ?_
    show jw_W (js_S n) _ md_152 16 [some (.inr (.inr 13)), some (.inl w), some (.inl k), some (.inl i)] [.inr (.inr 57), .inl i] σ _
    refine jw_W_gf rfl rfl rfl ?_
    show jw_W (js_S n) _ md_152 17 [some (.inr (.inr 13)), some (.inl w), some (.inl k), some (.inl i)] [.inl (σ 57 0), .inl i] σ _
    refine jw_W_ic rfl (by unfold jw_rg; omega) (by unfold jw_rg; omega) (fun hc1 => ?_) (fun hc1 => ?_)
    · have hc1 : i ≥ (σ 57 0) := hc1
      refine jw_W_n 1 (i' := 35) (ls' := [some (.inr (.inr 13)), some (.inl w), some (.inl k), some (.inl i)]) (st' := [.inl ((-4))]) rfl ?_
      refine jw_W_ir rfl ?_
      have hkl : i = σ 103 56 := by omega
      subst hkl
      exact ⟨_, rfl, rfl, .inl ⟨rfl, H⟩⟩
    · have hc1 : ¬ (i ≥ (σ 57 0)) := hc1
      refine jw_W_n 1 (i' := 19) (ls' := [some (.inr (.inr 13)), some (.inl w), some (.inl k), some (.inl i)]) (st' := [.inr (.inr 13)]) rfl ?_
      refine jw_W_gf rfl rfl rfl ?_
      show jw_W (js_S n) _ md_152 20 [some (.inr (.inr 13)), some (.inl w), some (.inl k), some (.inl i)] [.inr (.inr 57)] σ _
      refine jw_W_n 1 (i' := 21) (ls' := [some (.inr (.inr 13)), some (.inl w), some (.inl k), some (.inl i)]) (st' := [.inl i, .inr (.inr 57)]) rfl ?_
      refine jw_W_call (as := [.inr (.inr 57), .inl i]) (rest := []) rfl rfl rfl rfl (Nat.le_of_ble_eq_true rfl) (.inr rfl) (jx_isEfficient hJ i0 (by omega)) (by omega) ?_ rfl
      rintro r1 σz (⟨rfl, hs, hg⟩ | ⟨rfl, hs, hg⟩)
      · rw [hs]
        show jw_W (js_S n) _ md_152 22 [some (.inr (.inr 13)), some (.inl w), some (.inl k), some (.inl i)] [.inl 1] σ _
        refine jw_W_if rfl (by unfold jw_rg; omega) (fun hc2 => ?_) (fun hc2 => ?_)
        · exact absurd hc2 (show ¬ ((1 : Int) = 0) by omega)
        · clear hc2
          refine jw_W_n 1 (i' := 24) (ls' := [some (.inr (.inr 13)), some (.inl w), some (.inl k), some (.inl i)]) (st' := [.inr (.inr 13)]) rfl ?_
          refine jw_W_gf rfl rfl rfl ?_
          show jw_W (js_S n) _ md_152 25 [some (.inr (.inr 13)), some (.inl w), some (.inl k), some (.inl i)] [.inr (.inr 57)] σ _
          refine jw_W_n 2 (i' := 27) (ls' := [some (.inr (.inr 13)), some (.inl w), some (.inl k), some (.inl i)]) (st' := [.inl w, .inl i, .inr (.inr 57)]) rfl ?_
          refine jw_W_call (as := [.inr (.inr 57), .inl i, .inl w]) (rest := []) rfl rfl rfl rfl (Nat.le_of_ble_eq_true rfl) (.inr rfl) (jx_efficientAhead hJ i0 (by omega) w0 w1) (by omega) ?_ rfl
          rintro r1 σz ⟨rfl, hs⟩
          rw [hs]
          have hcl := jx_cn_le (fun c => jm_ah σ w i c) (σ 103 56).toNat
          have hcl2 : 0 ≤ jm_rkn σ w i ∧ jm_rkn σ w i ≤ 20 := by unfold jm_rkn; omega
          show jw_W (js_S n) _ md_152 28 [some (.inr (.inr 13)), some (.inl w), some (.inl k), some (.inl i)] [.inl (jm_rkn σ w i)] σ _
          refine jw_W_n 1 (i' := 29) (ls' := [some (.inr (.inr 13)), some (.inl w), some (.inl k), some (.inl i)]) (st' := [.inl k, .inl (jm_rkn σ w i)]) rfl ?_
          refine jw_W_ic rfl (by unfold jw_rg; omega) (by unfold jw_rg; omega) (fun hc3 => ?_) (fun hc3 => ?_)
          · have hc3 : (jm_rkn σ w i) ≠ k := hc3
            refine jw_W_n 2 (i' := 13) (ls' := [some (.inr (.inr 13)), some (.inl w), some (.inl k), some (.inl (i + 1))]) (st' := []) rfl ?_
            refine ih (by omega) (fun c c0 c1 => ?_)
            by_cases ec : c = i
            · rw [ec]
              exact fun hh => by first | exact hg hh.1 | (have h2 := hh.2; omega)
            · exact H c c0 (by omega)
          · have hc3 : (jm_rkn σ w i) = k := Classical.not_not.mp hc3
            refine jw_W_n 1 (i' := 31) (ls' := [some (.inr (.inr 13)), some (.inl w), some (.inl k), some (.inl i)]) (st' := [.inl i]) rfl ?_
            refine jw_W_ir rfl ?_
            exact ⟨_, rfl, rfl, .inr ⟨by omega, ⟨hg, by omega⟩, H⟩⟩
      · rw [hs]
        show jw_W (js_S n) _ md_152 22 [some (.inr (.inr 13)), some (.inl w), some (.inl k), some (.inl i)] [.inl 0] σ _
        refine jw_W_if rfl (by unfold jw_rg; omega) (fun hc4 => ?_) (fun hc4 => ?_)
        · clear hc4
          refine jw_W_n 2 (i' := 13) (ls' := [some (.inr (.inr 13)), some (.inl w), some (.inl k), some (.inl (i + 1))]) (st' := []) rfl ?_
          refine ih (by omega) (fun c c0 c1 => ?_)
          by_cases ec : c = i
          · rw [ec]
            exact fun hh => by first | exact hg hh.1 | (have h2 := hh.2; omega)
          · exact H c c0 (by omega)
        · exact absurd hc4 (show ¬ ¬ ((0 : Int) = 0) by omega)
theorem jx_ranked {n : Nat} {σ : jw_H} {o : Nat} {C : List (ge_R × Int)} (hK : jx_K n o C σ) {w k : Int} (hrw : jw_rg w) (rk : jw_rg k) : jw_T (js_S n) 8 152 [.inr (.inr 13), .inl w, .inl k] σ (fun r σ' => ∃ v, r = some (.inl v) ∧ jx_fx σ σ' ∧ jx_jj σ' ∧ jm_rka σ w k v) := by
  refine jw_T_of (D := 7) (M := mm_152) rfl (Nat.le_of_ble_eq_true rfl) (ls0 := [some (.inr (.inr 13)), some (.inl w), some (.inl k), none]) rfl ?_ (by rintro _ _ ⟨_, rfl, -⟩; rfl)
  have hI := hK.1
  obtain ⟨hto, hfo, hp, hP, e0, e1, e2, hPm, hcb, c0, p0, -⟩ := jx_I0_x hI
  have ho := hp.1
  have hq := hP.1
  have hw := hP.2.1
  have hq2 := hP.2.2.1
  have hcn := hcb.1
  have rk2 := rk
  unfold jw_rg at rk2
  refine jw_W_n 2 (i' := 2) (ls' := [some (.inr (.inr 13)), some (.inl w), some (.inl k), none]) (st' := [.inl w, .inr (.inr 13)]) rfl ?_
  refine jw_W_call (as := [.inr (.inr 13), .inl w]) (rest := []) rfl rfl rfl rfl (Nat.le_of_ble_eq_true rfl) (.inr rfl) (jx_isWish hK hrw) (by omega) ?_ rfl
  rintro r1 σz (⟨rfl, hs, q1⟩ | ⟨rfl, hs, q1⟩)
  · rw [hs]
    show jw_W (js_S n) _ md_152 3 [some (.inr (.inr 13)), some (.inl w), some (.inl k), none] [.inl 1] σ _
    refine jw_W_if rfl (by unfold jw_rg; omega) (fun hc1 => ?_) (fun hc1 => ?_)
    · exact absurd hc1 (show ¬ ((1 : Int) = 0) by omega)
    · clear hc1
      refine jw_W_n 1 (i' := 5) (ls' := [some (.inr (.inr 13)), some (.inl w), some (.inl k), none]) (st' := [.inl k]) rfl ?_
      refine jw_W_if rfl (by unfold jw_rg; omega) (fun hc2 => ?_) (fun hc2 => ?_)
      · have hc2 : k ≥ 0 := hc2
        refine jw_W_n 1 (i' := 9) (ls' := [some (.inr (.inr 13)), some (.inl w), some (.inl k), none]) (st' := [.inr (.inr 13)]) rfl ?_
        refine jw_W_gf rfl rfl rfl ?_
        show jw_W (js_S n) _ md_152 10 [some (.inr (.inr 13)), some (.inl w), some (.inl k), none] [.inr (.inr 57)] σ _
        refine jw_W_call (as := [.inr (.inr 57)]) (rest := []) rfl rfl rfl rfl (Nat.le_of_ble_eq_true rfl) (.inr rfl) (jx_judgeK hK) (by omega) ?_ rfl
        rintro r1 σ1 ⟨rfl, hf1, hK1⟩
        have hI1 := hK1.1
        have hfo1 := hI1.2.1.1
        have hto1 : (σ1 13 2).toNat = o := by have := hI1.1.1; omega
        have hKN1 := hK1.2.1
        have hjd1 := hK1.2.2.2
        have hme1 := jx_fx_me hf1
        have e1031 : σ1 103 = σ 103 := hme1 103 (by omega)
        have e5701 : σ1 57 0 = σ 103 56 := by rw [← e1031]; exact hI1.2.1.2.1
        have hI1x := jx_I0_x hI1
        have hPm1 := hI1x.2.2.2.2.2.2.2.1
        have hcb1 := hI1x.2.2.2.2.2.2.2.2.1
        have e0561 : σ1 103 56 = σ 103 56 := by rw [e1031]
        have e0031 : σ1 103 3 = σ 103 3 := by rw [e1031]
        have e0041 : σ1 103 4 = σ 103 4 := by rw [e1031]
        have e0051 : σ1 103 5 = σ 103 5 := by rw [e1031]
        show jw_W (js_S n) _ md_152 11 [some (.inr (.inr 13)), some (.inl w), some (.inl k), none] [] σ1 _
        refine jw_W_n 2 (i' := 13) (ls' := [some (.inr (.inr 13)), some (.inl w), some (.inl k), some (.inl 0)]) (st' := []) rfl ?_
        refine jw_W_mono (jx_rkd_loop (D := 7) (by omega) hK1 (by omega) (by rw [e1031]; omega) rk (σ1 103 56).toNat (i := 0) (by omega) (by omega) (fun c c0 c1 => by omega)) ?_
        rintro r σ' ⟨v, rfl, hs, hv⟩
        rw [hs]
        exact ⟨_, rfl, hf1, .inr hK1.2.2, (jm_rka_me hme1 w k v).mp (.inr ⟨by rw [e1031]; omega, hv⟩)⟩
      · have hc2 : ¬ (k ≥ 0) := hc2
        refine jw_W_n 1 (i' := 7) (ls' := [some (.inr (.inr 13)), some (.inl w), some (.inl k), none]) (st' := [.inl ((-1))]) rfl ?_
        refine jw_W_ir rfl ?_
        exact ⟨_, rfl, jx_fx_rf σ, hK.2.2, .inl ⟨rfl, by omega⟩⟩
  · rw [hs]
    show jw_W (js_S n) _ md_152 3 [some (.inr (.inr 13)), some (.inl w), some (.inl k), none] [.inl 0] σ _
    refine jw_W_if rfl (by unfold jw_rg; omega) (fun hc3 => ?_) (fun hc3 => ?_)
    · clear hc3
      refine jw_W_n 1 (i' := 7) (ls' := [some (.inr (.inr 13)), some (.inl w), some (.inl k), none]) (st' := [.inl ((-1))]) rfl ?_
      refine jw_W_ir rfl ?_
      exact ⟨_, rfl, jx_fx_rf σ, hK.2.2, .inl ⟨rfl, by omega⟩⟩
    · exact absurd hc3 (show ¬ ¬ ((0 : Int) = 0) by omega)
theorem jm_rkd_c {n : Nat} {σ : jw_H} {D : Nat} {Q : Option jw_V → jw_H → Prop} (hD : 2 ≤ D) {C : List (ge_R × Int)} (hKN : jm_KN σ C) {i w : Int} (i0 : 0 ≤ i) (i1 : i < σ 103 56) (w0 : 0 ≤ w) (w1 : w < σ 103 4){k : Int} (hQ : ∀ {m : Int}, m = jm_rkn σ w i → jw_W (js_S n) D md_320 48 [some (.inr (.inr 103)), some (.inl w), some (.inl k), some (.inl i), some (.inl m), some (.inl (σ 103 56))] [] σ Q) : ∀ (f : Nat) {j m : Int}, 0 ≤ j → j + f = σ 103 56 → m = jx_cn (fun c => jm_ah σ w i c) j.toNat → jw_W (js_S n) D md_320 18 [some (.inr (.inr 103)), some (.inl w), some (.inl k), some (.inl i), some (.inl m), some (.inl j)] [] σ Q
  | f, j, m, j0, hk, H => by
    have ih : ∀ {m' : Int}, j < σ 103 56 → m' = jx_cn (fun c => jm_ah σ w i c) (j + 1).toNat → jw_W (js_S n) D md_320 18 [some (.inr (.inr 103)), some (.inl w), some (.inl k), some (.inl i), some (.inl m'), some (.inl (j + 1))] [] σ Q := by
      intro m' h1 h2
      match f, hk with
      | 0, hk => omega
      | f + 1, hk => exact jm_rkd_c hD hKN i0 i1 w0 w1 hQ f (by omega) (by omega) h2
    have hcl := jx_cn_le (fun c => jm_ah σ w i c) j.toNat
    have hcb := (jm_kw_cbd hKN.1).2 σ (jm_fk_rf σ)
    have hcn := hcb.1
    have hPm := hKN.1.1
    have hqq := hPm.1
    have hww := hPm.2.1
    have hkk := hPm.2.2.1
    have hg57 := hKN.2.2.1.1
    have hg58 := hKN.2.2.2.1.1
    refine jw_W_n 2 (i' := 20) (ls' := [some (.inr (.inr 103)), some (.inl w), some (.inl k), some (.inl i), some (.inl m), some (.inl j)]) (st' := [.inr (.inr 103), .inl j]) rfl ?_
    refine jw_W_gf rfl rfl rfl ?_
    show jw_W (js_S n) _ md_320 21 [some (.inr (.inr 103)), some (.inl w), some (.inl k), some (.inl i), some (.inl m), some (.inl j)] [.inl (σ 103 56), .inl j] σ _
    refine jw_W_ic rfl (by unfold jw_rg; omega) (by unfold jw_rg; omega) (fun hc1 => ?_) (fun hc1 => ?_)
    · have hc1 : j ≥ (σ 103 56) := hc1
      have hkl : j = σ 103 56 := by omega
      subst hkl
      exact hQ H
    · have hc1 : ¬ (j ≥ (σ 103 56)) := hc1
      refine jw_W_n 1 (i' := 23) (ls' := [some (.inr (.inr 103)), some (.inl w), some (.inl k), some (.inl i), some (.inl m), some (.inl j)]) (st' := [.inr (.inr 103)]) rfl ?_
      refine jw_W_gf rfl rfl rfl ?_
      show jw_W (js_S n) _ md_320 24 [some (.inr (.inr 103)), some (.inl w), some (.inl k), some (.inl i), some (.inl m), some (.inl j)] [.inl (σ 103 57)] σ _
      refine jw_W_n 1 (i' := 25) (ls' := [some (.inr (.inr 103)), some (.inl w), some (.inl k), some (.inl i), some (.inl m), some (.inl j)]) (st' := [.inl j, .inl (σ 103 57)]) rfl ?_
      refine jw_W_call (as := [.inl (σ 103 57), .inl j]) (rest := []) rfl rfl rfl rfl (Nat.le_of_ble_eq_true rfl) (.inl rfl) (jm_has (by omega) (by omega) (by omega) (by omega)) (by omega) ?_ rfl
      rintro r1 σz (⟨rfl, hs, hg⟩ | ⟨rfl, hs, hg⟩)
      · rw [hs]
        show jw_W (js_S n) _ md_320 26 [some (.inr (.inr 103)), some (.inl w), some (.inl k), some (.inl i), some (.inl m), some (.inl j)] [.inl 1] σ _
        refine jw_W_if rfl (by unfold jw_rg; omega) (fun hc2 => ?_) (fun hc2 => ?_)
        · exact absurd hc2 (show ¬ ((1 : Int) = 0) by omega)
        · clear hc2
          refine jw_W_n 4 (i' := 31) (ls' := [some (.inr (.inr 103)), some (.inl w), some (.inl k), some (.inl i), some (.inl m), some (.inl j)]) (st' := [.inl i, .inl j, .inl w, .inr (.inr 103)]) rfl ?_
          refine jw_W_call (as := [.inr (.inr 103), .inl w, .inl j, .inl i]) (rest := []) rfl rfl rfl rfl (Nat.le_of_ble_eq_true rfl) (.inr rfl) (jm_byWish hPm hcb w0 w1 j0 (by omega) i0 i1) (by omega) ?_ rfl
          rintro r1 σz (⟨rfl, hs, hlt⟩ | ⟨rfl, hs, hlt⟩ | ⟨rfl, hs, hlt⟩)
          · rw [hs]
            show jw_W (js_S n) _ md_320 32 [some (.inr (.inr 103)), some (.inl w), some (.inl k), some (.inl i), some (.inl m), some (.inl j)] [.inl ((-1))] σ _
            refine jw_W_if rfl (by unfold jw_rg; omega) (fun hc3 => ?_) (fun hc3 => ?_)
            · exact absurd hc3 (show ¬ ((((-1 : Int))) > 0) by omega)
            · clear hc3
              refine jw_W_n 4 (i' := 37) (ls' := [some (.inr (.inr 103)), some (.inl w), some (.inl k), some (.inl i), some (.inl m), some (.inl j)]) (st' := [.inl i, .inl j, .inl w, .inr (.inr 103)]) rfl ?_
              refine jw_W_call (as := [.inr (.inr 103), .inl w, .inl j, .inl i]) (rest := []) rfl rfl rfl rfl (Nat.le_of_ble_eq_true rfl) (.inr rfl) (jm_byWish hPm hcb w0 w1 j0 (by omega) i0 i1) (by omega) ?_ rfl
              rintro r1 σz (⟨rfl, hs, hlt⟩ | ⟨rfl, hs, hlt⟩ | ⟨rfl, hs, hlt⟩)
              · rw [hs]
                show jw_W (js_S n) _ md_320 38 [some (.inr (.inr 103)), some (.inl w), some (.inl k), some (.inl i), some (.inl m), some (.inl j)] [.inl ((-1))] σ _
                refine jw_W_if rfl (by unfold jw_rg; omega) (fun hc4 => ?_) (fun hc4 => ?_)
                · clear hc4
                  refine jw_W_n 2 (i' := 18) (ls' := [some (.inr (.inr 103)), some (.inl w), some (.inl k), some (.inl i), some (.inl m), some (.inl (j + 1))]) (st' := []) rfl ?_
                  exact ih (by omega) (jx_cn_no j0 H (fun hh => by first | exact absurd hh.1 hg | (have h2 := hh.2; unfold jm_wl at h2; omega)))
                · exact absurd hc4 (show ¬ ¬ ((((-1 : Int))) ≠ 0) by omega)
              · rw [hs]
                show jw_W (js_S n) _ md_320 38 [some (.inr (.inr 103)), some (.inl w), some (.inl k), some (.inl i), some (.inl m), some (.inl j)] [.inl 1] σ _
                refine jw_W_if rfl (by unfold jw_rg; omega) (fun hc5 => ?_) (fun hc5 => ?_)
                · clear hc5
                  refine jw_W_n 2 (i' := 18) (ls' := [some (.inr (.inr 103)), some (.inl w), some (.inl k), some (.inl i), some (.inl m), some (.inl (j + 1))]) (st' := []) rfl ?_
                  exact ih (by omega) (jx_cn_no j0 H (fun hh => by first | exact absurd hh.1 hg | (have h2 := hh.2; unfold jm_wl at h2; omega)))
                · exact absurd hc5 (show ¬ ¬ ((1 : Int) ≠ 0) by omega)
              · rw [hs]
                show jw_W (js_S n) _ md_320 38 [some (.inr (.inr 103)), some (.inl w), some (.inl k), some (.inl i), some (.inl m), some (.inl j)] [.inl 0] σ _
                refine jw_W_if rfl (by unfold jw_rg; omega) (fun hc6 => ?_) (fun hc6 => ?_)
                · exact absurd hc6 (show ¬ ((0 : Int) ≠ 0) by omega)
                · clear hc6
                  refine jw_W_n 2 (i' := 41) (ls' := [some (.inr (.inr 103)), some (.inl w), some (.inl k), some (.inl i), some (.inl m), some (.inl j)]) (st' := [.inl i, .inl j]) rfl ?_
                  refine jw_W_ic rfl (by unfold jw_rg; omega) (by unfold jw_rg; omega) (fun hc7 => ?_) (fun hc7 => ?_)
                  · have hc7 : j ≥ i := hc7
                    refine jw_W_n 2 (i' := 18) (ls' := [some (.inr (.inr 103)), some (.inl w), some (.inl k), some (.inl i), some (.inl m), some (.inl (j + 1))]) (st' := []) rfl ?_
                    exact ih (by omega) (jx_cn_no j0 H (fun hh => by first | exact absurd hh.1 hg | (have h2 := hh.2; unfold jm_wl at h2; omega)))
                  · have hc7 : ¬ (j ≥ i) := hc7
                    refine jw_W_n 6 (i' := 18) (ls' := [some (.inr (.inr 103)), some (.inl w), some (.inl k), some (.inl i), some (.inl (m + 1)), some (.inl (j + 1))]) (st' := []) rfl ?_
                    exact ih (by omega) (jx_cn_yes j0 H (⟨hg, by unfold jm_wl; omega⟩))
          · rw [hs]
            show jw_W (js_S n) _ md_320 32 [some (.inr (.inr 103)), some (.inl w), some (.inl k), some (.inl i), some (.inl m), some (.inl j)] [.inl 1] σ _
            refine jw_W_if rfl (by unfold jw_rg; omega) (fun hc8 => ?_) (fun hc8 => ?_)
            · clear hc8
              refine jw_W_n 6 (i' := 18) (ls' := [some (.inr (.inr 103)), some (.inl w), some (.inl k), some (.inl i), some (.inl (m + 1)), some (.inl (j + 1))]) (st' := []) rfl ?_
              exact ih (by omega) (jx_cn_yes j0 H (⟨hg, by unfold jm_wl; omega⟩))
            · exact absurd hc8 (show ¬ ¬ ((1 : Int) > 0) by omega)
          · rw [hs]
            show jw_W (js_S n) _ md_320 32 [some (.inr (.inr 103)), some (.inl w), some (.inl k), some (.inl i), some (.inl m), some (.inl j)] [.inl 0] σ _
            refine jw_W_if rfl (by unfold jw_rg; omega) (fun hc9 => ?_) (fun hc9 => ?_)
            · exact absurd hc9 (show ¬ ((0 : Int) > 0) by omega)
            · clear hc9
              refine jw_W_n 4 (i' := 37) (ls' := [some (.inr (.inr 103)), some (.inl w), some (.inl k), some (.inl i), some (.inl m), some (.inl j)]) (st' := [.inl i, .inl j, .inl w, .inr (.inr 103)]) rfl ?_
              refine jw_W_call (as := [.inr (.inr 103), .inl w, .inl j, .inl i]) (rest := []) rfl rfl rfl rfl (Nat.le_of_ble_eq_true rfl) (.inr rfl) (jm_byWish hPm hcb w0 w1 j0 (by omega) i0 i1) (by omega) ?_ rfl
              rintro r1 σz (⟨rfl, hs, hlt⟩ | ⟨rfl, hs, hlt⟩ | ⟨rfl, hs, hlt⟩)
              · rw [hs]
                show jw_W (js_S n) _ md_320 38 [some (.inr (.inr 103)), some (.inl w), some (.inl k), some (.inl i), some (.inl m), some (.inl j)] [.inl ((-1))] σ _
                refine jw_W_if rfl (by unfold jw_rg; omega) (fun hc10 => ?_) (fun hc10 => ?_)
                · clear hc10
                  refine jw_W_n 2 (i' := 18) (ls' := [some (.inr (.inr 103)), some (.inl w), some (.inl k), some (.inl i), some (.inl m), some (.inl (j + 1))]) (st' := []) rfl ?_
                  exact ih (by omega) (jx_cn_no j0 H (fun hh => by first | exact absurd hh.1 hg | (have h2 := hh.2; unfold jm_wl at h2; omega)))
                · exact absurd hc10 (show ¬ ¬ ((((-1 : Int))) ≠ 0) by omega)
              · rw [hs]
                show jw_W (js_S n) _ md_320 38 [some (.inr (.inr 103)), some (.inl w), some (.inl k), some (.inl i), some (.inl m), some (.inl j)] [.inl 1] σ _
                refine jw_W_if rfl (by unfold jw_rg; omega) (fun hc11 => ?_) (fun hc11 => ?_)
                · clear hc11
                  refine jw_W_n 2 (i' := 18) (ls' := [some (.inr (.inr 103)), some (.inl w), some (.inl k), some (.inl i), some (.inl m), some (.inl (j + 1))]) (st' := []) rfl ?_
                  exact ih (by omega) (jx_cn_no j0 H (fun hh => by first | exact absurd hh.1 hg | (have h2 := hh.2; unfold jm_wl at h2; omega)))
                · exact absurd hc11 (show ¬ ¬ ((1 : Int) ≠ 0) by omega)
              · rw [hs]
                show jw_W (js_S n) _ md_320 38 [some (.inr (.inr 103)), some (.inl w), some (.inl k), some (.inl i), some (.inl m), some (.inl j)] [.inl 0] σ _
                refine jw_W_if rfl (by unfold jw_rg; omega) (fun hc12 => ?_) (fun hc12 => ?_)
                · exact absurd hc12 (show ¬ ((0 : Int) ≠ 0) by omega)
                · clear hc12
                  refine jw_W_n 2 (i' := 41) (ls' := [some (.inr (.inr 103)), some (.inl w), some (.inl k), some (.inl i), some (.inl m), some (.inl j)]) (st' := [.inl i, .inl j]) rfl ?_
                  refine jw_W_ic rfl (by unfold jw_rg; omega) (by unfold jw_rg; omega) (fun hc13 => ?_) (fun hc13 => ?_)
                  · have hc13 : j ≥ i := hc13
                    refine jw_W_n 2 (i' := 18) (ls' := [some (.inr (.inr 103)), some (.inl w), some (.inl k), some (.inl i), some (.inl m), some (.inl (j + 1))]) (st' := []) rfl ?_
                    exact ih (by omega) (jx_cn_no j0 H (fun hh => by first | exact absurd hh.1 hg | (have h2 := hh.2; unfold jm_wl at h2; omega)))
                  · have hc13 : ¬ (j ≥ i) := hc13
                    refine jw_W_n 6 (i' := 18) (ls' := [some (.inr (.inr 103)), some (.inl w), some (.inl k), some (.inl i), some (.inl (m + 1)), some (.inl (j + 1))]) (st' := []) rfl ?_
                    exact ih (by omega) (jx_cn_yes j0 H (⟨hg, by unfold jm_wl; omega⟩))
      · rw [hs]
        show jw_W (js_S n) _ md_320 26 [some (.inr (.inr 103)), some (.inl w), some (.inl k), some (.inl i), some (.inl m), some (.inl j)] [.inl 0] σ _
        refine jw_W_if rfl (by unfold jw_rg; omega) (fun hc14 => ?_) (fun hc14 => ?_)
        · clear hc14
          refine jw_W_n 2 (i' := 18) (ls' := [some (.inr (.inr 103)), some (.inl w), some (.inl k), some (.inl i), some (.inl m), some (.inl (j + 1))]) (st' := []) rfl ?_
          exact ih (by omega) (jx_cn_no j0 H (fun hh => by first | exact absurd hh.1 hg | (have h2 := hh.2; unfold jm_wl at h2; omega)))
        · exact absurd hc14 (show ¬ ¬ ((0 : Int) = 0) by omega)
theorem jm_rkd_loop {n : Nat} {σ : jw_H} {C : List (ge_R × Int)} (hKN : jm_KN σ C) {w k : Int} (w0 : 0 ≤ w) (w1 : w < σ 103 4) (rk : jw_rg k) : ∀ (f : Nat) {i : Int} {u v : Option jw_V}, 0 ≤ i → i + f = σ 103 56 → (∀ c, 0 ≤ c → c < i → ¬ jm_rkq σ w k c) → jw_W (js_S n) 2 md_320 10 [some (.inr (.inr 103)), some (.inl w), some (.inl k), some (.inl i), u, v] [] σ (fun r σ' => ∃ v, r = some (.inl v) ∧ σ' = σ ∧ jm_rkr σ w k v)
  | f, i, u, v, i0, hk, H => by
    have ih : ∀ {u' v' : Option jw_V}, i < σ 103 56 → (∀ c, 0 ≤ c → c < i + 1 → ¬ jm_rkq σ w k c) → jw_W (js_S n) 2 md_320 10 [some (.inr (.inr 103)), some (.inl w), some (.inl k), some (.inl (i + 1)), u', v'] [] σ (fun r σ' => ∃ v, r = some (.inl v) ∧ σ' = σ ∧ jm_rkr σ w k v) := by
      intro u' v' h1 h2
      match f, hk with
      | 0, hk => omega
      | f + 1, hk => exact jm_rkd_loop hKN w0 w1 rk f (by omega) (by omega) h2
    unfold jw_rg at rk
    have hcb := (jm_kw_cbd hKN.1).2 σ (jm_fk_rf σ)
    have hcn := hcb.1
    have hPm := hKN.1.1
    have hqq := hPm.1
    have hww := hPm.2.1
    have hkk := hPm.2.2.1
    have hg57 := hKN.2.2.1.1
    have hg58 := hKN.2.2.2.1.1
    refine jw_W_n 2 (i' := 12) (ls' := [some (.inr (.inr 103)), some (.inl w), some (.inl k), some (.inl i), u, v]) (st' := [.inr (.inr 103), .inl i]) rfl ?_
    refine jw_W_gf rfl rfl rfl ?_
    show jw_W (js_S n) _ md_320 13 [some (.inr (.inr 103)), some (.inl w), some (.inl k), some (.inl i), u, v] [.inl (σ 103 56), .inl i] σ _
    refine jw_W_ic rfl (by unfold jw_rg; omega) (by unfold jw_rg; omega) (fun hc1 => ?_) (fun hc1 => ?_)
    · have hc1 : i ≥ (σ 103 56) := hc1
      refine jw_W_n 1 (i' := 61) (ls' := [some (.inr (.inr 103)), some (.inl w), some (.inl k), some (.inl i), u, v]) (st' := [.inl ((-4))]) rfl ?_
      refine jw_W_ir rfl ?_
      have hkl : i = σ 103 56 := by omega
      subst hkl
      exact ⟨_, rfl, rfl, .inl ⟨rfl, H⟩⟩
    · have hc1 : ¬ (i ≥ (σ 103 56)) := hc1
      refine jw_W_n 4 (i' := 18) (ls' := [some (.inr (.inr 103)), some (.inl w), some (.inl k), some (.inl i), some (.inl 0), some (.inl 0)]) (st' := []) rfl ?_
      refine jm_rkd_c (D := 2) (by omega) hKN i0 (by omega) w0 w1 (fun {m} Hm => ?_) (σ 103 56).toNat (j := 0) (m := 0) (by omega) (by omega) rfl
      have hcl := jx_cn_le (fun c => jm_ah σ w i c) (σ 103 56).toNat
      have hm20 : 0 ≤ m ∧ m ≤ 20 := by rw [Hm]; unfold jm_rkn; omega
      refine jw_W_n 1 (i' := 49) (ls' := [some (.inr (.inr 103)), some (.inl w), some (.inl k), some (.inl i), some (.inl m), some (.inl (σ 103 56))]) (st' := [.inr (.inr 103)]) rfl ?_
      refine jw_W_gf rfl rfl rfl ?_
      show jw_W (js_S n) _ md_320 50 [some (.inr (.inr 103)), some (.inl w), some (.inl k), some (.inl i), some (.inl m), some (.inl (σ 103 56))] [.inl (σ 103 57)] σ _
      refine jw_W_n 1 (i' := 51) (ls' := [some (.inr (.inr 103)), some (.inl w), some (.inl k), some (.inl i), some (.inl m), some (.inl (σ 103 56))]) (st' := [.inl i, .inl (σ 103 57)]) rfl ?_
      refine jw_W_call (as := [.inl (σ 103 57), .inl i]) (rest := []) rfl rfl rfl rfl (Nat.le_of_ble_eq_true rfl) (.inl rfl) (jm_has (by omega) (by omega) (by omega) (by omega)) (by omega) ?_ rfl
      rintro r1 σz (⟨rfl, hs, hg⟩ | ⟨rfl, hs, hg⟩)
      · rw [hs]
        show jw_W (js_S n) _ md_320 52 [some (.inr (.inr 103)), some (.inl w), some (.inl k), some (.inl i), some (.inl m), some (.inl (σ 103 56))] [.inl 1] σ _
        refine jw_W_if rfl (by unfold jw_rg; omega) (fun hc1 => ?_) (fun hc1 => ?_)
        · exact absurd hc1 (show ¬ ((1 : Int) = 0) by omega)
        · clear hc1
          refine jw_W_n 2 (i' := 55) (ls' := [some (.inr (.inr 103)), some (.inl w), some (.inl k), some (.inl i), some (.inl m), some (.inl (σ 103 56))]) (st' := [.inl k, .inl m]) rfl ?_
          refine jw_W_ic rfl (by unfold jw_rg; omega) (by unfold jw_rg; omega) (fun hc2 => ?_) (fun hc2 => ?_)
          · have hc2 : m ≠ k := hc2
            refine jw_W_n 2 (i' := 10) (ls' := [some (.inr (.inr 103)), some (.inl w), some (.inl k), some (.inl (i + 1)), some (.inl m), some (.inl (σ 103 56))]) (st' := []) rfl ?_
            refine ih (by omega) (fun c c0 c1 => ?_)
            by_cases ec : c = i
            · rw [ec]
              exact fun hh => by first | exact hg hh.1 | (have h2 := hh.2; omega)
            · exact H c c0 (by omega)
          · have hc2 : m = k := Classical.not_not.mp hc2
            refine jw_W_n 1 (i' := 57) (ls' := [some (.inr (.inr 103)), some (.inl w), some (.inl k), some (.inl i), some (.inl m), some (.inl (σ 103 56))]) (st' := [.inl i]) rfl ?_
            refine jw_W_ir rfl ?_
            exact ⟨_, rfl, rfl, .inr ⟨by omega, ⟨hg, by omega⟩, H⟩⟩
      · rw [hs]
        show jw_W (js_S n) _ md_320 52 [some (.inr (.inr 103)), some (.inl w), some (.inl k), some (.inl i), some (.inl m), some (.inl (σ 103 56))] [.inl 0] σ _
        refine jw_W_if rfl (by unfold jw_rg; omega) (fun hc3 => ?_) (fun hc3 => ?_)
        · clear hc3
          refine jw_W_n 2 (i' := 10) (ls' := [some (.inr (.inr 103)), some (.inl w), some (.inl k), some (.inl (i + 1)), some (.inl m), some (.inl (σ 103 56))]) (st' := []) rfl ?_
          refine ih (by omega) (fun c c0 c1 => ?_)
          by_cases ec : c = i
          · rw [ec]
            exact fun hh => by first | exact hg hh.1 | (have h2 := hh.2; omega)
          · exact H c c0 (by omega)
        · exact absurd hc3 (show ¬ ¬ ((0 : Int) = 0) by omega)
theorem jm_ranked {n : Nat} {σ : jw_H} {C : List (ge_R × Int)} (hKN : jm_KN σ C) {w k : Int} (hrw : jw_rg w) (rk : jw_rg k) : jw_T (js_S n) 3 320 [.inr (.inr 103), .inl w, .inl k] σ (fun r σ' => ∃ v, r = some (.inl v) ∧ σ' = σ ∧ jm_rka σ w k v) := by
  refine jw_T_of (D := 2) (M := mm_320) rfl (Nat.le_of_ble_eq_true rfl) (ls0 := [some (.inr (.inr 103)), some (.inl w), some (.inl k), none, none, none]) rfl ?_ (by rintro _ _ ⟨_, rfl, -⟩; rfl)
  have hcb := (jm_kw_cbd hKN.1).2 σ (jm_fk_rf σ)
  have hcn := hcb.1
  have hPm := hKN.1.1
  have hqq := hPm.1
  have hww := hPm.2.1
  have hkk := hPm.2.2.1
  have hg57 := hKN.2.2.1.1
  have hg58 := hKN.2.2.2.1.1
  have rk2 := rk
  unfold jw_rg at rk2
  refine jw_W_n 2 (i' := 2) (ls' := [some (.inr (.inr 103)), some (.inl w), some (.inl k), none, none, none]) (st' := [.inl w, .inr (.inr 103)]) rfl ?_
  refine jw_W_call (as := [.inr (.inr 103), .inl w]) (rest := []) rfl rfl rfl rfl (Nat.le_of_ble_eq_true rfl) (.inr rfl) (jm_isWish hPm hrw) (by omega) ?_ rfl
  rintro r1 σz (⟨rfl, hs, q2⟩ | ⟨rfl, hs, q2⟩)
  · rw [hs]
    show jw_W (js_S n) _ md_320 3 [some (.inr (.inr 103)), some (.inl w), some (.inl k), none, none, none] [.inl 1] σ _
    refine jw_W_if rfl (by unfold jw_rg; omega) (fun hc1 => ?_) (fun hc1 => ?_)
    · exact absurd hc1 (show ¬ ((1 : Int) = 0) by omega)
    · clear hc1
      refine jw_W_n 1 (i' := 5) (ls' := [some (.inr (.inr 103)), some (.inl w), some (.inl k), none, none, none]) (st' := [.inl k]) rfl ?_
      refine jw_W_if rfl (by unfold jw_rg; omega) (fun hc2 => ?_) (fun hc2 => ?_)
      · have hc2 : k ≥ 0 := hc2
        refine jw_W_n 2 (i' := 10) (ls' := [some (.inr (.inr 103)), some (.inl w), some (.inl k), some (.inl 0), none, none]) (st' := []) rfl ?_
        refine jw_W_mono (jm_rkd_loop hKN (by omega) (by omega) rk (σ 103 56).toNat (i := 0) (by omega) (by omega) (fun c c0 c1 => by omega)) ?_
        rintro r σ' ⟨v, rfl, hs, hv⟩
        exact ⟨_, rfl, hs, .inr ⟨by omega, hv⟩⟩
      · have hc2 : ¬ (k ≥ 0) := hc2
        refine jw_W_n 1 (i' := 7) (ls' := [some (.inr (.inr 103)), some (.inl w), some (.inl k), none, none, none]) (st' := [.inl ((-1))]) rfl ?_
        refine jw_W_ir rfl ?_
        exact ⟨_, rfl, rfl, .inl ⟨rfl, by omega⟩⟩
  · rw [hs]
    show jw_W (js_S n) _ md_320 3 [some (.inr (.inr 103)), some (.inl w), some (.inl k), none, none, none] [.inl 0] σ _
    refine jw_W_if rfl (by unfold jw_rg; omega) (fun hc3 => ?_) (fun hc3 => ?_)
    · clear hc3
      refine jw_W_n 1 (i' := 7) (ls' := [some (.inr (.inr 103)), some (.inl w), some (.inl k), none, none, none]) (st' := [.inl ((-1))]) rfl ?_
      refine jw_W_ir rfl ?_
      exact ⟨_, rfl, rfl, .inl ⟨rfl, by omega⟩⟩
    · exact absurd hc3 (show ¬ ¬ ((0 : Int) = 0) by omega)

/-! ===== the class: judge ===== -/
theorem jx_lsh {n : Nat} {i : Int} (i0 : 0 ≤ i) (i1 : i < 24) : (js_S n)[67 + i.toNat]? = some (.inr (0, 24)) := by
  have key : ∀ k : Fin 24, (js_S n)[67 + k.val]? = some (.inr (0, 24)) := by
    intro k
    have h : ∀ k : Fin 24, js_S1[66 + k.val]? = some (.inr (0, 24)) := by decide
    have e : 67 + k.val = 66 + k.val + 1 := by omega
    rw [e]
    exact h k
  exact key ⟨i.toNat, by omega⟩
/-- a link between two corners -/
def jx_lk (σ : jw_H) (i j v : Int) : Prop := (i = j ∧ v = 0) ∨ (i ≠ j ∧ ((v = 2 ∧ jm_E2 σ (jm_ct σ i) (jm_ct σ j)) ∨ (v = 1 ∧ jm_E1 σ (jm_ct σ i) (jm_ct σ j) ∧ ¬ jm_E2 σ (jm_ct σ i) (jm_ct σ j)) ∨ (v = 0 ∧ ¬ jm_E1 σ (jm_ct σ i) (jm_ct σ j))))
theorem jm_E1_sy {σ : jw_H} {x y : ge_R} (h : jm_E1 σ x y) : jm_E1 σ y x := ge_ed_sym h
theorem jm_E2_sy {σ : jw_H} {x y : ge_R} (h : jm_E2 σ x y) : jm_E2 σ y x := ⟨ge_ed_sym h.1, by rw [jm_two_c]; exact h.2⟩
theorem jx_lk_sy {σ : jw_H} {i j v : Int} (h : jx_lk σ i j v) : jx_lk σ j i v := by
  rcases h with ⟨h1, h2⟩ | ⟨h1, ⟨h2, h3⟩ | ⟨h2, h3, h4⟩ | ⟨h2, h3⟩⟩
  · exact .inl ⟨h1.symm, h2⟩
  · exact .inr ⟨fun e => h1 e.symm, .inl ⟨h2, jm_E2_sy h3⟩⟩
  · exact .inr ⟨fun e => h1 e.symm, .inr (.inl ⟨h2, jm_E1_sy h3, fun hh => h4 (jm_E2_sy hh)⟩)⟩
  · exact .inr ⟨fun e => h1 e.symm, .inr (.inr ⟨h2, fun hh => h3 (jm_E1_sy hh)⟩)⟩
/-- risen so far, layers begun -/
def jx_j1 (σ0 σ : jw_H) (i : Int) : Prop := jx_fj σ0 σ ∧ σ 57 9 = 1 ∧ ∀ c, 0 ≤ c → c < i → jx_rs σ0 (jm_ct σ0 c) (σ 91 c) ∧ σ 64 c = -1
/-- links so far -/
def jx_j2 (σ0 σ : jw_H) (i j : Int) : Prop := jx_j1 σ0 σ (σ0 103 56) ∧ ∀ a c, 0 ≤ a → a < σ0 103 56 → 0 ≤ c → c < σ0 103 56 → (jm_dn i j a c ∨ (a = c ∧ a < j ∧ a ≤ i)) → jx_lk σ0 a c (σ (67 + a.toNat) c)
/-- judged -/
def jx_jd (σ : jw_H) : Prop := ∀ a, 0 ≤ a → a < σ 103 56 → jx_rs σ (jm_ct σ a) (σ 91 a) ∧ σ 64 a = σ 139 a ∧ ∀ c, 0 ≤ c → c < σ 103 56 → jx_lk σ a c (σ (67 + a.toNat) c)
theorem jx_judge_1 {n : Nat} {σ0 : jw_H} {o : Nat} {C : List (ge_R × Int)} {D : Nat} {a2 a3 : Option jw_V} {Q : Option jw_V → jw_H → Prop} (hD : 6 ≤ D) (hI0 : jx_I0 n σ0 o C) (hQ : ∀ σ, jx_j1 σ0 σ (σ0 103 56) → jw_W (js_S n) D md_2 30 [some (.inr (.inr 57)), some (.inl (σ0 103 56)), a2, a3] [] σ Q) : ∀ (f : Nat) {σ : jw_H} {i : Int}, 0 ≤ i → i + f = σ0 103 56 → jx_j1 σ0 σ i → jw_W (js_S n) D md_2 9 [some (.inr (.inr 57)), some (.inl i), a2, a3] [] σ Q
  | f, σ, i, i0, hk, H => by
    have ih : ∀ {σ' : jw_H}, i < σ0 103 56 → jx_j1 σ0 σ' (i + 1) → jw_W (js_S n) D md_2 9 [some (.inr (.inr 57)), some (.inl (i + 1)), a2, a3] [] σ' Q := by
      intro σ' h1 h2
      match f, hk with
      | 0, hk => omega
      | f + 1, hk => exact jx_judge_1 hD hI0 hQ f (by omega) (by omega) h2
    have HF := H.1
    have hme := jx_fj_me HF
    have e56 : σ 103 56 = σ0 103 56 := by rw [hme 103 (by omega)]
    have hI := jx_I0_fj HF hI0
    have hpq0 := jx_pq_tr hI.1.2.2.2 (jx_me_pq hme)
    have hP0 := (jx_I0_x hI0).2.2.2.2.2.2.2.1
    obtain ⟨hto, hfo, hp, hP, e0, e1, e2, hPm, hcb, c0, p0, -⟩ := jx_I0_x hI
    have ho := hp.1
    have hq := hP.1
    have hw := hP.2.1
    have hq2 := hP.2.2.1
    have hcn := hcb.1
    refine jw_W_n 2 (i' := 11) (ls' := [some (.inr (.inr 57)), some (.inl i), a2, a3]) (st' := [.inr (.inr 57), .inl i]) rfl ?_
    refine jw_W_gf rfl rfl rfl ?_
    show jw_W (js_S n) _ md_2 12 [some (.inr (.inr 57)), some (.inl i), a2, a3] [.inl (σ 57 0), .inl i] σ _
    refine jw_W_ic rfl (by unfold jw_rg; omega) (by unfold jw_rg; omega) (fun hc1 => ?_) (fun hc1 => ?_)
    · have hc1 : i ≥ (σ 57 0) := hc1
      have hkl : i = σ0 103 56 := by omega
      subst hkl
      exact hQ _ H
    · have hc1 : ¬ (i ≥ (σ 57 0)) := hc1
      refine jw_W_n 1 (i' := 14) (ls' := [some (.inr (.inr 57)), some (.inl i), a2, a3]) (st' := [.inr (.inr 57)]) rfl ?_
      refine jw_W_gf rfl rfl rfl ?_
      show jw_W (js_S n) _ md_2 15 [some (.inr (.inr 57)), some (.inl i), a2, a3] [.inr (.inr 91)] σ _
      refine jw_W_n 3 (i' := 18) (ls' := [some (.inr (.inr 57)), some (.inl i), a2, a3]) (st' := [.inr (.inr 57), .inr (.inr 57), .inl i, .inr (.inr 91)]) rfl ?_
      refine jw_W_gf rfl rfl rfl ?_
      show jw_W (js_S n) _ md_2 19 [some (.inr (.inr 57)), some (.inl i), a2, a3] [.inr (.inr 63), .inr (.inr 57), .inl i, .inr (.inr 91)] σ _
      refine jw_W_n 1 (i' := 20) (ls' := [some (.inr (.inr 57)), some (.inl i), a2, a3]) (st' := [.inl i, .inr (.inr 63), .inr (.inr 57), .inl i, .inr (.inr 91)]) rfl ?_
      refine jw_W_ia rfl rfl (by omega) (by omega) (by omega) ?_
      show jw_W (js_S n) _ md_2 21 [some (.inr (.inr 57)), some (.inl i), a2, a3] [.inl (σ 63 i), .inr (.inr 57), .inl i, .inr (.inr 91)] σ _
      refine jw_W_call (as := [.inr (.inr 57), .inl (σ 63 i)]) (rest := [.inl i, .inr (.inr 91)]) rfl rfl rfl rfl (Nat.le_of_ble_eq_true rfl) (.inr rfl) (jx_findRisen hfo hp hP (by have h1 := (jx_I0_c hI i0 (by omega)).2.1; have h2 := (jx_I0_c hI i0 (by omega)).2.2.2.2.1; rw [h1]; exact ⟨h2.1, h2.2.1⟩)) (by omega) ?_ rfl
      rintro r1 σ1 ⟨m, rfl, hf, hra⟩
      show jw_W (js_S n) _ md_2 22 [some (.inr (.inr 57)), some (.inl i), a2, a3] [.inl m, .inl i, .inr (.inr 91)] σ1 _
      refine jw_W_is rfl (by omega) rfl (by omega) (by omega) (by omega) ?_
      refine jw_W_n 1 (i' := 24) (ls' := [some (.inr (.inr 57)), some (.inl i), a2, a3]) (st' := [.inr (.inr 57)]) rfl ?_
      refine jw_W_gf rfl rfl rfl ?_
      show jw_W (js_S n) _ md_2 25 [some (.inr (.inr 57)), some (.inl i), a2, a3] [.inr (.inr 64)] ((jw_up σ1 91 i m)) _
      refine jw_W_n 2 (i' := 27) (ls' := [some (.inr (.inr 57)), some (.inl i), a2, a3]) (st' := [.inl ((-1)), .inl i, .inr (.inr 64)]) rfl ?_
      refine jw_W_is rfl (by omega) rfl (by omega) (by omega) (by omega) ?_
      refine jw_W_n 2 (i' := 9) (ls' := [some (.inr (.inr 57)), some (.inl (i + 1)), a2, a3]) (st' := []) rfl ?_
      have hci := jx_I0_c hI i0 (by omega)
      have hrs : jx_rs σ0 (jm_ct σ0 i) m := by
        refine jx_rs_pq hpq0 hP0 (jx_ra_rs (t := σ 63 i) (jx_Pb_M hP) ?_ ?_ hra)
        · rw [jx_pq_R hpq0 (by have := hP0.1; omega) (by have := hP0.2.2.1; omega), ← jx_me_ct hme, ← jx_me_R hme hP0]
          exact hci.2.2.1.1
        · rw [jx_pq_bA hpq0 (by have := hP0.1; omega) (by have := hP0.2.2.1; omega), ← jx_me_ct hme, ← jx_me_bA hme hP0, hci.2.1]
          exact hci.2.2.2.2.1
      have HF1 := jx_fj_q HF hf
      exact ih (by omega) ⟨jx_fj_up (jx_fj_up HF1 (.inl (by omega))) (.inl (by omega)), by rw [jw_up_ne _ (by omega), jw_up_ne _ (by omega), hf 57 (by omega)]; exact H.2.1, fun c c0 c1 => by
        rw [jw_up_ne _ (show ¬ ((91 : Nat) = 64 ∧ c = i) by omega)]
        by_cases ec : c = i
        · rw [ec, jw_up_eq, jw_up_eq]
          exact ⟨hrs, rfl⟩
        · rw [jw_up_ne _ (by omega), jw_up_ne _ (by omega), jw_up_ne _ (by omega), hf 91 (by omega), hf 64 (by omega)]
          exact H.2.2 c c0 (by omega)⟩
theorem jx_j2_in {σ0 σ σ' : jw_H} {i j v : Int} (h : jx_j2 σ0 σ i j) (i0 : 0 ≤ i) (ij : i < j) (j1 : j < 24) (hv : jx_lk σ0 i j v) (hq : jx_fq σ σ') : jx_j2 σ0 (jw_up (jw_up σ' (67 + i.toNat) j v) (67 + j.toNat) i v) i (j + 1) := by
  obtain ⟨⟨h1, h2, h3⟩, h4⟩ := h
  · refine ⟨⟨jx_fj_up (jx_fj_up (jx_fj_q h1 hq) (.inl (by omega))) (.inl (by omega)), ?_, fun c c0 c1 => ?_⟩, fun a c a0 a1 c0 c1 hd => ?_⟩
    · rw [jw_up_ne _ (by omega), jw_up_ne _ (by omega), hq 57 (by omega)]
      exact h2
    · rw [jw_up_ne _ (by omega), jw_up_ne _ (by omega), jw_up_ne _ (by omega), jw_up_ne _ (by omega), hq 91 (by omega), hq 64 (by omega)]
      exact h3 c c0 c1
    · by_cases e1 : a = j ∧ c = i
      · rw [e1.1, e1.2, jw_up_eq]
        exact jx_lk_sy hv
      · rw [jw_up_ne _ (by omega)]
        by_cases e2 : a = i ∧ c = j
        · rw [e2.1, e2.2, jw_up_eq]
          exact hv
        · rw [jw_up_ne _ (by omega), hq _ (by omega)]
          exact h4 a c a0 a1 c0 c1 (by unfold jm_dn at *; omega)
theorem jx_judge_j {n : Nat} {σ0 : jw_H} {o : Nat} {C : List (ge_R × Int)} {D : Nat} {i : Int} {Q : Option jw_V → jw_H → Prop} (hD : 6 ≤ D) (hI0 : jx_I0 n σ0 o C) (i0 : 0 ≤ i) (i1 : i < σ0 103 56) (hQ : ∀ σ a, jx_j2 σ0 σ i (σ0 103 56) → jw_W (js_S n) D md_2 103 [some (.inr (.inr 57)), some (.inl i), some (.inl (σ0 103 56)), a] [] σ Q) : ∀ (f : Nat) {σ : jw_H} {j : Int} {a3 : Option jw_V}, i < j → j + f = σ0 103 56 → jx_j2 σ0 σ i j → jw_W (js_S n) D md_2 47 [some (.inr (.inr 57)), some (.inl i), some (.inl j), a3] [] σ Q
  | f, σ, j, a3, ij, hk, H => by
    have ih : ∀ {σ' : jw_H} {a3 : Option jw_V}, j < σ0 103 56 → jx_j2 σ0 σ' i (j + 1) → jw_W (js_S n) D md_2 47 [some (.inr (.inr 57)), some (.inl i), some (.inl (j + 1)), a3] [] σ' Q := by
      intro σ' a3 h1 h2
      match f, hk with
      | 0, hk => omega
      | f + 1, hk => exact jx_judge_j hD hI0 i0 i1 hQ f (by omega) (by omega) h2
    have HF := H.1.1
    have hme := jx_fj_me HF
    have e56 : σ 103 56 = σ0 103 56 := by rw [hme 103 (by omega)]
    have hI := jx_I0_fj HF hI0
    have hpq0 := jx_pq_tr hI.1.2.2.2 (jx_me_pq hme)
    have hP0 := (jx_I0_x hI0).2.2.2.2.2.2.2.1
    obtain ⟨hto, hfo, hp, hP, e0, e1, e2, hPm, hcb, c0, p0, -⟩ := jx_I0_x hI
    have ho := hp.1
    have hq := hP.1
    have hw := hP.2.1
    have hq2 := hP.2.2.1
    have hcn := hcb.1
    have hci := jx_I0_c hI i0 (by omega)
    have hRM : jm_R (jx_M σ o) = jm_R σ0 := jx_pq_R hpq0 (by have := hP0.1; omega) (by have := hP0.2.2.1; omega)
    have hBM : jm_bA (jx_M σ o) = jm_bA σ0 := jx_pq_bA hpq0 (by have := hP0.1; omega) (by have := hP0.2.2.1; omega)
    have hFi0 : ge_F (jm_R σ0) (jm_ct σ0 i) := by
      rw [← jx_me_ct hme, ← jx_me_R hme hP0]
      exact hci.2.2.1.1
    have hFi : ge_F (jm_R (jx_M σ o)) (jm_ct σ0 i) := by
      rw [hRM]
      exact hFi0
    have hti : jm_tau (jm_bA (jx_M σ o)) (jm_ct σ0 i) (σ 63 i) := by
      rw [hBM, ← jx_me_ct hme, ← jx_me_bA hme hP0, hci.2.1]
      exact hci.2.2.2.2.1
    have hri := (H.1.2.2 i i0 (by omega)).1
    have hzi := jx_rs_0 hri
    have hri7 := hri.1
    refine jw_W_n 2 (i' := 49) (ls' := [some (.inr (.inr 57)), some (.inl i), some (.inl j), a3]) (st' := [.inr (.inr 57), .inl j]) rfl ?_
    refine jw_W_gf rfl rfl rfl ?_
    show jw_W (js_S n) _ md_2 50 [some (.inr (.inr 57)), some (.inl i), some (.inl j), a3] [.inl (σ 57 0), .inl j] σ _
    refine jw_W_ic rfl (by unfold jw_rg; omega) (by unfold jw_rg; omega) (fun hc1 => ?_) (fun hc1 => ?_)
    · have hc1 : j ≥ (σ 57 0) := hc1
      have hkl : j = σ0 103 56 := by omega
      subst hkl
      exact hQ _ _ H
    · have hc1 : ¬ (j ≥ (σ 57 0)) := hc1
      have hcj := jx_I0_c hI (show 0 ≤ j by omega) (by omega)
      have hFj0 : ge_F (jm_R σ0) (jm_ct σ0 j) := by rw [← jx_me_ct hme, ← jx_me_R hme hP0]; exact hcj.2.2.1.1
      have hFj : ge_F (jm_R (jx_M σ o)) (jm_ct σ0 j) := by rw [hRM]; exact hFj0
      have htj : jm_tau (jm_bA (jx_M σ o)) (jm_ct σ0 j) (σ 63 j) := by rw [hBM, ← jx_me_ct hme, ← jx_me_bA hme hP0, hcj.2.1]; exact hcj.2.2.2.2.1
      have hrj := (H.1.2.2 j (by omega) (by omega)).1
      have hzj := jx_rs_0 hrj
      have hrj7 := hrj.1
      have htt : 0 ≤ jw_and (σ 63 i) (σ 63 j) ∧ jw_and (σ 63 i) (σ 63 j) ≤ 1048575 := by
        rw [jb_and hti.1 (by have := hti.2.1; omega) htj.1 (by have := htj.2.1; omega)]
        have hle : (σ 63 i).toNat &&& (σ 63 j).toNat ≤ (σ 63 i).toNat := Nat.and_le_left
        have := hti.1
        have := hti.2.1
        omega
      refine jw_W_n 3 (i' := 54) (ls' := [some (.inr (.inr 57)), some (.inl i), some (.inl j), a3]) (st' := [.inl j, .inl i, .inr (.inr 57)]) rfl ?_
      refine jw_W_call (as := [.inr (.inr 57), .inl i, .inl j]) (rest := []) rfl rfl rfl rfl (Nat.le_of_ble_eq_true rfl) (.inr rfl) (jx_areLinked hfo hp hP i0 (by omega) (by omega) (by omega) hFi hFj hti htj) (by omega) ?_ rfl
      rintro r1 σz (⟨rfl, hs, hE1⟩ | ⟨rfl, hs, hE1⟩)
      · rw [hs]
        rw [hRM] at hE1
        have hE1 : jm_E1 σ0 (jm_ct σ0 i) (jm_ct σ0 j) := hE1.2
        show jw_W (js_S n) _ md_2 55 [some (.inr (.inr 57)), some (.inl i), some (.inl j), a3] [.inl 1] σ _
        refine jw_W_if rfl (by unfold jw_rg; omega) (fun hc2 => ?_) (fun hc2 => ?_)
        · exact absurd hc2 (show ¬ ((1 : Int) = 0) by omega)
        · clear hc2
          refine jw_W_n 5 (i' := 62) (ls' := [some (.inr (.inr 57)), some (.inl i), some (.inl j), some (.inl 1)]) (st' := [.inl 1, .inl 1]) rfl ?_
          refine jw_W_ic rfl (by unfold jw_rg; omega) (by unfold jw_rg; omega) (fun hc3 => ?_) (fun hc3 => ?_)
          · exact absurd hc3 (show ¬ ((1 : Int) ≠ 1) by omega)
          · clear hc3
            refine jw_W_n 1 (i' := 64) (ls' := [some (.inr (.inr 57)), some (.inl i), some (.inl j), some (.inl 1)]) (st' := [.inr (.inr 57)]) rfl ?_
            refine jw_W_gf rfl rfl rfl ?_
            show jw_W (js_S n) _ md_2 65 [some (.inr (.inr 57)), some (.inl i), some (.inl j), some (.inl 1)] [.inr (.inr 91)] σ _
            refine jw_W_n 1 (i' := 66) (ls' := [some (.inr (.inr 57)), some (.inl i), some (.inl j), some (.inl 1)]) (st' := [.inl i, .inr (.inr 91)]) rfl ?_
            refine jw_W_ia rfl rfl (by omega) (by omega) (by omega) ?_
            show jw_W (js_S n) _ md_2 67 [some (.inr (.inr 57)), some (.inl i), some (.inl j), some (.inl 1)] [.inl (σ 91 i)] σ _
            refine jw_W_if rfl (by unfold jw_rg; omega) (fun hc4 => ?_) (fun hc4 => ?_)
            · have hc4 : (σ 91 i) ≠ 0 := hc4
              refine jw_W_n 1 (i' := 88) (ls' := [some (.inr (.inr 57)), some (.inl i), some (.inl j), some (.inl 1)]) (st' := [.inr (.inr 57)]) rfl ?_
              refine jw_W_gf rfl rfl rfl ?_
              show jw_W (js_S n) _ md_2 89 [some (.inr (.inr 57)), some (.inl i), some (.inl j), some (.inl 1)] [.inr (.inr 66)] σ _
              refine jw_W_n 1 (i' := 90) (ls' := [some (.inr (.inr 57)), some (.inl i), some (.inl j), some (.inl 1)]) (st' := [.inl i, .inr (.inr 66)]) rfl ?_
              refine jw_W_aa rfl rfl (by omega) (by omega) (by omega) ?_
              show jw_W (js_S n) _ md_2 91 [some (.inr (.inr 57)), some (.inl i), some (.inl j), some (.inl 1)] [.inr (.inr (67 + (i).toNat))] σ _
              refine jw_W_n 2 (i' := 93) (ls' := [some (.inr (.inr 57)), some (.inl i), some (.inl j), some (.inl 1)]) (st' := [.inl 1, .inl j, .inr (.inr (67 + (i).toNat))]) rfl ?_
              refine jw_W_is rfl (by omega) (jx_lsh (by omega) (by omega)) (by omega) (by omega) (by omega) ?_
              refine jw_W_n 1 (i' := 95) (ls' := [some (.inr (.inr 57)), some (.inl i), some (.inl j), some (.inl 1)]) (st' := [.inr (.inr 57)]) rfl ?_
              refine jw_W_gf rfl rfl rfl ?_
              show jw_W (js_S n) _ md_2 96 [some (.inr (.inr 57)), some (.inl i), some (.inl j), some (.inl 1)] [.inr (.inr 66)] ((jw_up σ (67 + (i).toNat) j 1)) _
              refine jw_W_n 1 (i' := 97) (ls' := [some (.inr (.inr 57)), some (.inl i), some (.inl j), some (.inl 1)]) (st' := [.inl j, .inr (.inr 66)]) rfl ?_
              refine jw_W_aa rfl rfl (by omega) (by omega) (by omega) ?_
              show jw_W (js_S n) _ md_2 98 [some (.inr (.inr 57)), some (.inl i), some (.inl j), some (.inl 1)] [.inr (.inr (67 + (j).toNat))] ((jw_up σ (67 + (i).toNat) j 1)) _
              refine jw_W_n 2 (i' := 100) (ls' := [some (.inr (.inr 57)), some (.inl i), some (.inl j), some (.inl 1)]) (st' := [.inl 1, .inl i, .inr (.inr (67 + (j).toNat))]) rfl ?_
              refine jw_W_is rfl (by omega) (jx_lsh (by omega) (by omega)) (by omega) (by omega) (by omega) ?_
              refine jw_W_n 2 (i' := 47) (ls' := [some (.inr (.inr 57)), some (.inl i), some (.inl (j + 1)), some (.inl 1)]) (st' := []) rfl ?_
              exact ih (by omega) (jx_j2_in H i0 (by omega) (by omega) (.inr ⟨by omega, .inr (.inl ⟨rfl, hE1, fun hh => by first | exact hh.2 (Classical.not_not.mp (fun h9 => (show ¬ _ from by assumption) (hz.mpr h9))) | exact hh.2 (jx_Ef_two hFi0.1 hFj0 (Classical.not_not.mp (fun h9 => (show ¬ (σ 91 i = 0) from by assumption) (hzi.mpr h9)))) | exact hh.2 (by rw [jm_two_c]; exact jx_Ef_two hFj0.1 hFi0 (Classical.not_not.mp (fun h9 => (show ¬ (σ 91 j = 0) from by assumption) (hzj.mpr h9))))⟩)⟩) (jx_fq_rf σ))
            · have hc4 : (σ 91 i) = 0 := Classical.not_not.mp hc4
              refine jw_W_n 1 (i' := 69) (ls' := [some (.inr (.inr 57)), some (.inl i), some (.inl j), some (.inl 1)]) (st' := [.inr (.inr 57)]) rfl ?_
              refine jw_W_gf rfl rfl rfl ?_
              show jw_W (js_S n) _ md_2 70 [some (.inr (.inr 57)), some (.inl i), some (.inl j), some (.inl 1)] [.inr (.inr 91)] σ _
              refine jw_W_n 1 (i' := 71) (ls' := [some (.inr (.inr 57)), some (.inl i), some (.inl j), some (.inl 1)]) (st' := [.inl j, .inr (.inr 91)]) rfl ?_
              refine jw_W_ia rfl rfl (by omega) (by omega) (by omega) ?_
              show jw_W (js_S n) _ md_2 72 [some (.inr (.inr 57)), some (.inl i), some (.inl j), some (.inl 1)] [.inl (σ 91 j)] σ _
              refine jw_W_if rfl (by unfold jw_rg; omega) (fun hc5 => ?_) (fun hc5 => ?_)
              · have hc5 : (σ 91 j) ≠ 0 := hc5
                refine jw_W_n 1 (i' := 88) (ls' := [some (.inr (.inr 57)), some (.inl i), some (.inl j), some (.inl 1)]) (st' := [.inr (.inr 57)]) rfl ?_
                refine jw_W_gf rfl rfl rfl ?_
                show jw_W (js_S n) _ md_2 89 [some (.inr (.inr 57)), some (.inl i), some (.inl j), some (.inl 1)] [.inr (.inr 66)] σ _
                refine jw_W_n 1 (i' := 90) (ls' := [some (.inr (.inr 57)), some (.inl i), some (.inl j), some (.inl 1)]) (st' := [.inl i, .inr (.inr 66)]) rfl ?_
                refine jw_W_aa rfl rfl (by omega) (by omega) (by omega) ?_
                show jw_W (js_S n) _ md_2 91 [some (.inr (.inr 57)), some (.inl i), some (.inl j), some (.inl 1)] [.inr (.inr (67 + (i).toNat))] σ _
                refine jw_W_n 2 (i' := 93) (ls' := [some (.inr (.inr 57)), some (.inl i), some (.inl j), some (.inl 1)]) (st' := [.inl 1, .inl j, .inr (.inr (67 + (i).toNat))]) rfl ?_
                refine jw_W_is rfl (by omega) (jx_lsh (by omega) (by omega)) (by omega) (by omega) (by omega) ?_
                refine jw_W_n 1 (i' := 95) (ls' := [some (.inr (.inr 57)), some (.inl i), some (.inl j), some (.inl 1)]) (st' := [.inr (.inr 57)]) rfl ?_
                refine jw_W_gf rfl rfl rfl ?_
                show jw_W (js_S n) _ md_2 96 [some (.inr (.inr 57)), some (.inl i), some (.inl j), some (.inl 1)] [.inr (.inr 66)] ((jw_up σ (67 + (i).toNat) j 1)) _
                refine jw_W_n 1 (i' := 97) (ls' := [some (.inr (.inr 57)), some (.inl i), some (.inl j), some (.inl 1)]) (st' := [.inl j, .inr (.inr 66)]) rfl ?_
                refine jw_W_aa rfl rfl (by omega) (by omega) (by omega) ?_
                show jw_W (js_S n) _ md_2 98 [some (.inr (.inr 57)), some (.inl i), some (.inl j), some (.inl 1)] [.inr (.inr (67 + (j).toNat))] ((jw_up σ (67 + (i).toNat) j 1)) _
                refine jw_W_n 2 (i' := 100) (ls' := [some (.inr (.inr 57)), some (.inl i), some (.inl j), some (.inl 1)]) (st' := [.inl 1, .inl i, .inr (.inr (67 + (j).toNat))]) rfl ?_
                refine jw_W_is rfl (by omega) (jx_lsh (by omega) (by omega)) (by omega) (by omega) (by omega) ?_
                refine jw_W_n 2 (i' := 47) (ls' := [some (.inr (.inr 57)), some (.inl i), some (.inl (j + 1)), some (.inl 1)]) (st' := []) rfl ?_
                exact ih (by omega) (jx_j2_in H i0 (by omega) (by omega) (.inr ⟨by omega, .inr (.inl ⟨rfl, hE1, fun hh => by first | exact hh.2 (Classical.not_not.mp (fun h9 => (show ¬ _ from by assumption) (hz.mpr h9))) | exact hh.2 (jx_Ef_two hFi0.1 hFj0 (Classical.not_not.mp (fun h9 => (show ¬ (σ 91 i = 0) from by assumption) (hzi.mpr h9)))) | exact hh.2 (by rw [jm_two_c]; exact jx_Ef_two hFj0.1 hFi0 (Classical.not_not.mp (fun h9 => (show ¬ (σ 91 j = 0) from by assumption) (hzj.mpr h9))))⟩)⟩) (jx_fq_rf σ))
              · have hc5 : (σ 91 j) = 0 := Classical.not_not.mp hc5
                refine jw_W_n 2 (i' := 75) (ls' := [some (.inr (.inr 57)), some (.inl i), some (.inl j), some (.inl 1)]) (st' := [.inr (.inr 57), .inr (.inr 57)]) rfl ?_
                refine jw_W_gf rfl rfl rfl ?_
                show jw_W (js_S n) _ md_2 76 [some (.inr (.inr 57)), some (.inl i), some (.inl j), some (.inl 1)] [.inr (.inr 63), .inr (.inr 57)] σ _
                refine jw_W_n 1 (i' := 77) (ls' := [some (.inr (.inr 57)), some (.inl i), some (.inl j), some (.inl 1)]) (st' := [.inl i, .inr (.inr 63), .inr (.inr 57)]) rfl ?_
                refine jw_W_ia rfl rfl (by omega) (by omega) (by omega) ?_
                show jw_W (js_S n) _ md_2 78 [some (.inr (.inr 57)), some (.inl i), some (.inl j), some (.inl 1)] [.inl (σ 63 i), .inr (.inr 57)] σ _
                refine jw_W_n 1 (i' := 79) (ls' := [some (.inr (.inr 57)), some (.inl i), some (.inl j), some (.inl 1)]) (st' := [.inr (.inr 57), .inl (σ 63 i), .inr (.inr 57)]) rfl ?_
                refine jw_W_gf rfl rfl rfl ?_
                show jw_W (js_S n) _ md_2 80 [some (.inr (.inr 57)), some (.inl i), some (.inl j), some (.inl 1)] [.inr (.inr 63), .inl (σ 63 i), .inr (.inr 57)] σ _
                refine jw_W_n 1 (i' := 81) (ls' := [some (.inr (.inr 57)), some (.inl i), some (.inl j), some (.inl 1)]) (st' := [.inl j, .inr (.inr 63), .inl (σ 63 i), .inr (.inr 57)]) rfl ?_
                refine jw_W_ia rfl rfl (by omega) (by omega) (by omega) ?_
                show jw_W (js_S n) _ md_2 82 [some (.inr (.inr 57)), some (.inl i), some (.inl j), some (.inl 1)] [.inl (σ 63 j), .inl (σ 63 i), .inr (.inr 57)] σ _
                refine jw_W_n 1 (i' := 83) (ls' := [some (.inr (.inr 57)), some (.inl i), some (.inl j), some (.inl 1)]) (st' := [.inl (jw_and (σ 63 i) (σ 63 j)), .inr (.inr 57)]) rfl ?_
                refine jw_W_call (as := [.inr (.inr 57), .inl (jw_and (σ 63 i) (σ 63 j))]) (rest := []) rfl rfl rfl rfl (Nat.le_of_ble_eq_true rfl) (.inr rfl) (jx_findRisen hfo hp hP htt) (by omega) ?_ rfl
                rintro r1 σ1 ⟨m, rfl, hf, hra⟩
                have hrt : jx_rs σ0 (jm_two (jm_ct σ0 i) (jm_ct σ0 j)) m := jx_rs_pq hpq0 hP0 (jx_ra_rs (jx_Pb_M hP) (by rw [hRM]; exact jm_two_F hFi0 hFj0) (by rw [hBM]; exact jx_tau_two hP0 hFi0 hFj0 (hBM ▸ hti) (hBM ▸ htj)) hra)
                have hz := jx_rs_0 hrt
                have hm7 := hrt.1
                show jw_W (js_S n) _ md_2 84 [some (.inr (.inr 57)), some (.inl i), some (.inl j), some (.inl 1)] [.inl m] σ1 _
                refine jw_W_if rfl (by unfold jw_rg; omega) (fun hc6 => ?_) (fun hc6 => ?_)
                · have hc6 : m ≠ 0 := hc6
                  refine jw_W_n 1 (i' := 88) (ls' := [some (.inr (.inr 57)), some (.inl i), some (.inl j), some (.inl 1)]) (st' := [.inr (.inr 57)]) rfl ?_
                  refine jw_W_gf rfl rfl rfl ?_
                  show jw_W (js_S n) _ md_2 89 [some (.inr (.inr 57)), some (.inl i), some (.inl j), some (.inl 1)] [.inr (.inr 66)] σ1 _
                  refine jw_W_n 1 (i' := 90) (ls' := [some (.inr (.inr 57)), some (.inl i), some (.inl j), some (.inl 1)]) (st' := [.inl i, .inr (.inr 66)]) rfl ?_
                  refine jw_W_aa rfl rfl (by omega) (by omega) (by omega) ?_
                  show jw_W (js_S n) _ md_2 91 [some (.inr (.inr 57)), some (.inl i), some (.inl j), some (.inl 1)] [.inr (.inr (67 + (i).toNat))] σ1 _
                  refine jw_W_n 2 (i' := 93) (ls' := [some (.inr (.inr 57)), some (.inl i), some (.inl j), some (.inl 1)]) (st' := [.inl 1, .inl j, .inr (.inr (67 + (i).toNat))]) rfl ?_
                  refine jw_W_is rfl (by omega) (jx_lsh (by omega) (by omega)) (by omega) (by omega) (by omega) ?_
                  refine jw_W_n 1 (i' := 95) (ls' := [some (.inr (.inr 57)), some (.inl i), some (.inl j), some (.inl 1)]) (st' := [.inr (.inr 57)]) rfl ?_
                  refine jw_W_gf rfl rfl rfl ?_
                  show jw_W (js_S n) _ md_2 96 [some (.inr (.inr 57)), some (.inl i), some (.inl j), some (.inl 1)] [.inr (.inr 66)] ((jw_up σ1 (67 + (i).toNat) j 1)) _
                  refine jw_W_n 1 (i' := 97) (ls' := [some (.inr (.inr 57)), some (.inl i), some (.inl j), some (.inl 1)]) (st' := [.inl j, .inr (.inr 66)]) rfl ?_
                  refine jw_W_aa rfl rfl (by omega) (by omega) (by omega) ?_
                  show jw_W (js_S n) _ md_2 98 [some (.inr (.inr 57)), some (.inl i), some (.inl j), some (.inl 1)] [.inr (.inr (67 + (j).toNat))] ((jw_up σ1 (67 + (i).toNat) j 1)) _
                  refine jw_W_n 2 (i' := 100) (ls' := [some (.inr (.inr 57)), some (.inl i), some (.inl j), some (.inl 1)]) (st' := [.inl 1, .inl i, .inr (.inr (67 + (j).toNat))]) rfl ?_
                  refine jw_W_is rfl (by omega) (jx_lsh (by omega) (by omega)) (by omega) (by omega) (by omega) ?_
                  refine jw_W_n 2 (i' := 47) (ls' := [some (.inr (.inr 57)), some (.inl i), some (.inl (j + 1)), some (.inl 1)]) (st' := []) rfl ?_
                  exact ih (by omega) (jx_j2_in H i0 (by omega) (by omega) (.inr ⟨by omega, .inr (.inl ⟨rfl, hE1, fun hh => by first | exact hh.2 (Classical.not_not.mp (fun h9 => (show ¬ _ from by assumption) (hz.mpr h9))) | exact hh.2 (jx_Ef_two hFi0.1 hFj0 (Classical.not_not.mp (fun h9 => (show ¬ (σ 91 i = 0) from by assumption) (hzi.mpr h9)))) | exact hh.2 (by rw [jm_two_c]; exact jx_Ef_two hFj0.1 hFi0 (Classical.not_not.mp (fun h9 => (show ¬ (σ 91 j = 0) from by assumption) (hzj.mpr h9))))⟩)⟩) hf)
                · have hc6 : m = 0 := Classical.not_not.mp hc6
                  refine jw_W_n 3 (i' := 88) (ls' := [some (.inr (.inr 57)), some (.inl i), some (.inl j), some (.inl 2)]) (st' := [.inr (.inr 57)]) rfl ?_
                  refine jw_W_gf rfl rfl rfl ?_
                  show jw_W (js_S n) _ md_2 89 [some (.inr (.inr 57)), some (.inl i), some (.inl j), some (.inl 2)] [.inr (.inr 66)] σ1 _
                  refine jw_W_n 1 (i' := 90) (ls' := [some (.inr (.inr 57)), some (.inl i), some (.inl j), some (.inl 2)]) (st' := [.inl i, .inr (.inr 66)]) rfl ?_
                  refine jw_W_aa rfl rfl (by omega) (by omega) (by omega) ?_
                  show jw_W (js_S n) _ md_2 91 [some (.inr (.inr 57)), some (.inl i), some (.inl j), some (.inl 2)] [.inr (.inr (67 + (i).toNat))] σ1 _
                  refine jw_W_n 2 (i' := 93) (ls' := [some (.inr (.inr 57)), some (.inl i), some (.inl j), some (.inl 2)]) (st' := [.inl 2, .inl j, .inr (.inr (67 + (i).toNat))]) rfl ?_
                  refine jw_W_is rfl (by omega) (jx_lsh (by omega) (by omega)) (by omega) (by omega) (by omega) ?_
                  refine jw_W_n 1 (i' := 95) (ls' := [some (.inr (.inr 57)), some (.inl i), some (.inl j), some (.inl 2)]) (st' := [.inr (.inr 57)]) rfl ?_
                  refine jw_W_gf rfl rfl rfl ?_
                  show jw_W (js_S n) _ md_2 96 [some (.inr (.inr 57)), some (.inl i), some (.inl j), some (.inl 2)] [.inr (.inr 66)] ((jw_up σ1 (67 + (i).toNat) j 2)) _
                  refine jw_W_n 1 (i' := 97) (ls' := [some (.inr (.inr 57)), some (.inl i), some (.inl j), some (.inl 2)]) (st' := [.inl j, .inr (.inr 66)]) rfl ?_
                  refine jw_W_aa rfl rfl (by omega) (by omega) (by omega) ?_
                  show jw_W (js_S n) _ md_2 98 [some (.inr (.inr 57)), some (.inl i), some (.inl j), some (.inl 2)] [.inr (.inr (67 + (j).toNat))] ((jw_up σ1 (67 + (i).toNat) j 2)) _
                  refine jw_W_n 2 (i' := 100) (ls' := [some (.inr (.inr 57)), some (.inl i), some (.inl j), some (.inl 2)]) (st' := [.inl 2, .inl i, .inr (.inr (67 + (j).toNat))]) rfl ?_
                  refine jw_W_is rfl (by omega) (jx_lsh (by omega) (by omega)) (by omega) (by omega) (by omega) ?_
                  refine jw_W_n 2 (i' := 47) (ls' := [some (.inr (.inr 57)), some (.inl i), some (.inl (j + 1)), some (.inl 2)]) (st' := []) rfl ?_
                  exact ih (by omega) (jx_j2_in H i0 (by omega) (by omega) (.inr ⟨by omega, .inl ⟨rfl, hE1, hz.mp (by omega)⟩⟩) hf)
      · rw [hs]
        rw [hRM] at hE1
        have hE1 : ¬ jm_E1 σ0 (jm_ct σ0 i) (jm_ct σ0 j) := fun hh => hE1 ⟨by omega, hh⟩
        show jw_W (js_S n) _ md_2 55 [some (.inr (.inr 57)), some (.inl i), some (.inl j), a3] [.inl 0] σ _
        refine jw_W_if rfl (by unfold jw_rg; omega) (fun hc7 => ?_) (fun hc7 => ?_)
        · clear hc7
          refine jw_W_n 4 (i' := 62) (ls' := [some (.inr (.inr 57)), some (.inl i), some (.inl j), some (.inl 0)]) (st' := [.inl 1, .inl 0]) rfl ?_
          refine jw_W_ic rfl (by unfold jw_rg; omega) (by unfold jw_rg; omega) (fun hc8 => ?_) (fun hc8 => ?_)
          · clear hc8
            refine jw_W_n 1 (i' := 88) (ls' := [some (.inr (.inr 57)), some (.inl i), some (.inl j), some (.inl 0)]) (st' := [.inr (.inr 57)]) rfl ?_
            refine jw_W_gf rfl rfl rfl ?_
            show jw_W (js_S n) _ md_2 89 [some (.inr (.inr 57)), some (.inl i), some (.inl j), some (.inl 0)] [.inr (.inr 66)] σ _
            refine jw_W_n 1 (i' := 90) (ls' := [some (.inr (.inr 57)), some (.inl i), some (.inl j), some (.inl 0)]) (st' := [.inl i, .inr (.inr 66)]) rfl ?_
            refine jw_W_aa rfl rfl (by omega) (by omega) (by omega) ?_
            show jw_W (js_S n) _ md_2 91 [some (.inr (.inr 57)), some (.inl i), some (.inl j), some (.inl 0)] [.inr (.inr (67 + (i).toNat))] σ _
            refine jw_W_n 2 (i' := 93) (ls' := [some (.inr (.inr 57)), some (.inl i), some (.inl j), some (.inl 0)]) (st' := [.inl 0, .inl j, .inr (.inr (67 + (i).toNat))]) rfl ?_
            refine jw_W_is rfl (by omega) (jx_lsh (by omega) (by omega)) (by omega) (by omega) (by omega) ?_
            refine jw_W_n 1 (i' := 95) (ls' := [some (.inr (.inr 57)), some (.inl i), some (.inl j), some (.inl 0)]) (st' := [.inr (.inr 57)]) rfl ?_
            refine jw_W_gf rfl rfl rfl ?_
            show jw_W (js_S n) _ md_2 96 [some (.inr (.inr 57)), some (.inl i), some (.inl j), some (.inl 0)] [.inr (.inr 66)] ((jw_up σ (67 + (i).toNat) j 0)) _
            refine jw_W_n 1 (i' := 97) (ls' := [some (.inr (.inr 57)), some (.inl i), some (.inl j), some (.inl 0)]) (st' := [.inl j, .inr (.inr 66)]) rfl ?_
            refine jw_W_aa rfl rfl (by omega) (by omega) (by omega) ?_
            show jw_W (js_S n) _ md_2 98 [some (.inr (.inr 57)), some (.inl i), some (.inl j), some (.inl 0)] [.inr (.inr (67 + (j).toNat))] ((jw_up σ (67 + (i).toNat) j 0)) _
            refine jw_W_n 2 (i' := 100) (ls' := [some (.inr (.inr 57)), some (.inl i), some (.inl j), some (.inl 0)]) (st' := [.inl 0, .inl i, .inr (.inr (67 + (j).toNat))]) rfl ?_
            refine jw_W_is rfl (by omega) (jx_lsh (by omega) (by omega)) (by omega) (by omega) (by omega) ?_
            refine jw_W_n 2 (i' := 47) (ls' := [some (.inr (.inr 57)), some (.inl i), some (.inl (j + 1)), some (.inl 0)]) (st' := []) rfl ?_
            exact ih (by omega) (jx_j2_in H i0 (by omega) (by omega) (.inr ⟨by omega, .inr (.inr ⟨rfl, hE1⟩)⟩) (jx_fq_rf σ))
          · exact absurd hc8 (show ¬ ¬ ((0 : Int) ≠ 1) by omega)
        · exact absurd hc7 (show ¬ ¬ ((0 : Int) = 0) by omega)
theorem jx_judge_2 {n : Nat} {σ0 : jw_H} {o : Nat} {C : List (ge_R × Int)} {D : Nat} {Q : Option jw_V → jw_H → Prop} (hD : 6 ≤ D) (hI0 : jx_I0 n σ0 o C) (hQ : ∀ σ a2 a3, jx_j2 σ0 σ (σ0 103 56) (σ0 103 56) → jw_W (js_S n) D md_2 105 [some (.inr (.inr 57)), some (.inl (σ0 103 56)), a2, a3] [] σ Q) : ∀ (f : Nat) {σ : jw_H} {i : Int} {a2 a3 : Option jw_V}, 0 ≤ i → i + f = σ0 103 56 → jx_j2 σ0 σ i i → jw_W (js_S n) D md_2 32 [some (.inr (.inr 57)), some (.inl i), a2, a3] [] σ Q
  | f, σ, i, a2, a3, i0, hk, H => by
    have ih : ∀ {σ' : jw_H} {a2 a3 : Option jw_V}, i < σ0 103 56 → jx_j2 σ0 σ' (i + 1) (i + 1) → jw_W (js_S n) D md_2 32 [some (.inr (.inr 57)), some (.inl (i + 1)), a2, a3] [] σ' Q := by
      intro σ' a2 a3 h1 h2
      match f, hk with
      | 0, hk => omega
      | f + 1, hk => exact jx_judge_2 hD hI0 hQ f (by omega) (by omega) h2
    have HF := H.1.1
    have hme := jx_fj_me HF
    have e56 : σ 103 56 = σ0 103 56 := by rw [hme 103 (by omega)]
    have hI := jx_I0_fj HF hI0
    have hpq0 := jx_pq_tr hI.1.2.2.2 (jx_me_pq hme)
    have hP0 := (jx_I0_x hI0).2.2.2.2.2.2.2.1
    obtain ⟨hto, hfo, hp, hP, e0, e1, e2, hPm, hcb, c0, p0, -⟩ := jx_I0_x hI
    have ho := hp.1
    have hq := hP.1
    have hw := hP.2.1
    have hq2 := hP.2.2.1
    have hcn := hcb.1
    refine jw_W_n 2 (i' := 34) (ls' := [some (.inr (.inr 57)), some (.inl i), a2, a3]) (st' := [.inr (.inr 57), .inl i]) rfl ?_
    refine jw_W_gf rfl rfl rfl ?_
    show jw_W (js_S n) _ md_2 35 [some (.inr (.inr 57)), some (.inl i), a2, a3] [.inl (σ 57 0), .inl i] σ _
    refine jw_W_ic rfl (by unfold jw_rg; omega) (by unfold jw_rg; omega) (fun hc1 => ?_) (fun hc1 => ?_)
    · have hc1 : i ≥ (σ 57 0) := hc1
      have hkl : i = σ0 103 56 := by omega
      subst hkl
      exact hQ _ _ _ H
    · have hc1 : ¬ (i ≥ (σ 57 0)) := hc1
      refine jw_W_n 1 (i' := 37) (ls' := [some (.inr (.inr 57)), some (.inl i), a2, a3]) (st' := [.inr (.inr 57)]) rfl ?_
      refine jw_W_gf rfl rfl rfl ?_
      show jw_W (js_S n) _ md_2 38 [some (.inr (.inr 57)), some (.inl i), a2, a3] [.inr (.inr 66)] σ _
      refine jw_W_n 1 (i' := 39) (ls' := [some (.inr (.inr 57)), some (.inl i), a2, a3]) (st' := [.inl i, .inr (.inr 66)]) rfl ?_
      refine jw_W_aa rfl rfl (by omega) (by omega) (by omega) ?_
      show jw_W (js_S n) _ md_2 40 [some (.inr (.inr 57)), some (.inl i), a2, a3] [.inr (.inr (67 + (i).toNat))] σ _
      refine jw_W_n 2 (i' := 42) (ls' := [some (.inr (.inr 57)), some (.inl i), a2, a3]) (st' := [.inl 0, .inl i, .inr (.inr (67 + (i).toNat))]) rfl ?_
      refine jw_W_is rfl (by omega) (jx_lsh (by omega) (by omega)) (by omega) (by omega) (by omega) ?_
      refine jw_W_n 4 (i' := 47) (ls' := [some (.inr (.inr 57)), some (.inl i), some (.inl (i + 1)), a3]) (st' := []) rfl ?_
      refine jx_judge_j hD hI0 i0 (by omega) (fun σ4 a4 H4 => ?_) (σ0 103 56 - (i + 1)).toNat (j := i + 1) (by omega) (by omega) ⟨⟨jx_fj_up HF (.inl (by omega)), ?_, fun c c0 c1 => ?_⟩, fun a c a0 a1 c0 c1 hd => ?_⟩
      · refine jw_W_n 2 (i' := 32) (ls' := [some (.inr (.inr 57)), some (.inl (i + 1)), some (.inl (σ0 103 56)), a4]) (st' := []) rfl ?_
        exact ih (by omega) ⟨H4.1, fun a c a0 a1 c0 c1 hd => H4.2 a c a0 a1 c0 c1 (by unfold jm_dn at *; omega)⟩
      · rw [jw_up_ne _ (by omega)]
        exact H.1.2.1
      · rw [jw_up_ne _ (by omega), jw_up_ne _ (by omega)]
        exact H.1.2.2 c c0 c1
      · by_cases e : a = i ∧ c = i
        · rw [e.1, e.2, jw_up_eq]
          exact .inl ⟨rfl, rfl⟩
        · rw [jw_up_ne _ (by omega)]
          exact H.2 a c a0 a1 c0 c1 (by unfold jm_dn at *; omega)
/-- links done, layers so far -/
def jx_j3 (σ0 : jw_H) (l : Nat) (σ : jw_H) : Prop := jx_fj σ0 σ ∧ σ 57 9 = 1 ∧ (∀ c, 0 ≤ c → c < σ0 103 56 → jx_rs σ0 (jm_ct σ0 c) (σ 91 c) ∧ ∀ a, 0 ≤ a → a < σ0 103 56 → jx_lk σ0 c a (σ (67 + c.toNat) a)) ∧ jx_ly σ0 l σ
theorem jx_j2_3 {σ0 σ : jw_H} (h : jx_j2 σ0 σ (σ0 103 56) (σ0 103 56)) : jx_j3 σ0 0 σ := by
  obtain ⟨⟨h1, h2, h3⟩, h4⟩ := h
  refine ⟨h1, h2, fun c c0 c1 => ⟨(h3 c c0 c1).1, fun a a0 a1 => h4 c a c0 c1 a0 a1 (by unfold jm_dn; omega)⟩, fun c c0 c1 => ⟨fun _ => (h3 c c0 c1).2, fun hh => absurd ⟨c0, c1⟩ hh⟩⟩
theorem jx_j3_s {σ0 σ σ' : jw_H} {l : Nat} (hme : jx_me σ0 σ) (h : jx_j3 σ0 l σ) (hn : σ0 103 56 ≤ 24) (a1 : jx_fj σ σ') (a2 : σ' 57 9 = σ 57 9) (a3 : σ' 91 = σ 91) (a4 : ∀ c, 66 < c → c < 91 → σ' c = σ c) (a5 : jx_le σ l σ' (σ 103 56)) : jx_j3 σ0 (l + 1) σ' := by
  refine ⟨jx_fj_tr h.1 a1, a2.trans h.2.1, fun c c0 c1 => ?_, ?_⟩
  · rw [a3, a4 _ (by omega) (by omega)]
    exact h.2.2.1 c c0 c1
  · have e := jx_le_ly a5
    intro c c0 c1
    have := e c c0 (by rw [hme 103 (by omega)]; exact c1)
    rw [jx_me_lv hme] at this
    refine ⟨this.1, fun hh => ?_⟩
    obtain ⟨s, s1, s2, s3, s4⟩ := this.2 hh
    exact ⟨s, s1, s2, (jx_me_lv hme _ _).mp s3, fun h9 => s4 ((jx_me_lv hme _ _).mpr h9)⟩
theorem jx_ly_me {σ0 σ : jw_H} {l : Nat} (hme : jx_me σ0 σ) (h : jx_ly σ0 l σ) : jx_ly σ l σ := by
  intro c c0 c1
  rw [hme 103 (by omega)] at c1
  have := h c c0 c1
  rw [jx_me_lv hme]
  refine ⟨this.1, fun hh => ?_⟩
  obtain ⟨s, s1, s2, s3, s4⟩ := this.2 hh
  exact ⟨s, s1, s2, (jx_me_lv hme _ _).mpr s3, fun h9 => s4 ((jx_me_lv hme _ _).mp h9)⟩
theorem jx_j3_end {σ0 σ : jw_H} {l : Nat} {C : List (ge_R × Int)} (hK : jm_KN σ0 C) (h : jx_j3 σ0 l σ) (he : ∀ a, ¬ jm_lv σ0 l a) : jx_fj σ0 σ ∧ σ 57 9 = 1 ∧ jx_jd σ := by
  have hme := jx_fj_me h.1
  have hP := hK.1.1
  refine ⟨h.1, h.2.1, fun a a0 a1 => ?_⟩
  rw [hme 103 (by omega)] at a1
  obtain ⟨h1, h2⟩ := h.2.2.1 a a0 a1
  rw [jx_me_ct hme]
  refine ⟨jx_rs_pq (jx_pq_sy (jx_me_pq hme)) (jm_Pb_fr (fun j _ => by rw [hme 103 (by omega)]) (hme 104 (by omega)) (hme 105 (by omega)) (hme 106 (by omega)) hP) h1, ?_, fun c c0 c1 => ?_⟩
  · obtain ⟨s, s1, s2, s3, s4⟩ := (h.2.2.2 a a0 a1).2 (he a)
    obtain ⟨-, -, -, -, -, -, t, -, -, -, t4⟩ := hK
    obtain ⟨s', u1, u2, u3, u4⟩ := t4 a a0 a1
    rw [s2, hme 139 (by omega), u2, jm_lv_uq s3 s4 u3 u4]
  · rw [hme 103 (by omega)] at c1
    have := h2 c c0 c1
    have e1 : ∀ x y, jm_E1 σ x y ↔ jm_E1 σ0 x y := fun x y => by unfold jm_E1; rw [jx_me_R hme hP]
    have e2 : ∀ x y, jm_E2 σ x y ↔ jm_E2 σ0 x y := fun x y => by unfold jm_E2; rw [jx_me_R hme hP, jx_pq_Ef (jx_me_pq hme) hP]
    unfold jx_lk at *
    rw [jx_me_ct hme, jx_me_ct hme, e1, e2]
    exact this
theorem jx_judge_3 {n : Nat} {σ0 : jw_H} {o : Nat} {C : List (ge_R × Int)} (hI0 : jx_I0 n σ0 o C) (hK : jm_KN σ0 C) : ∀ (f : Nat) {σ : jw_H} {l : Nat} {v : Int} {a3 : Option jw_V}, (l : Int) + f = σ0 103 56 → (v = 0 ∨ v = 1 ∧ ∀ a, ¬ jm_lv σ0 l a) → jx_j3 σ0 l σ → jw_W (js_S n) 6 md_2 114 [some (.inr (.inr 57)), some (.inl v), some (.inl l), a3] [] σ (fun r σ' => r = none ∧ jx_fj σ0 σ' ∧ σ' 57 9 = 1 ∧ jx_jd σ')
  | f, σ, l, v, a3, hk, hv, H => by
    have ih : ∀ {σ' : jw_H} {v' : Int} {a3 : Option jw_V}, (l : Int) < σ0 103 56 → (v' = 0 ∨ v' = 1 ∧ ∀ a, ¬ jm_lv σ0 (l + 1) a) → jx_j3 σ0 (l + 1) σ' → jw_W (js_S n) 6 md_2 114 [some (.inr (.inr 57)), some (.inl v'), some (.inl ((l : Int) + 1)), a3] [] σ' (fun r σ' => r = none ∧ jx_fj σ0 σ' ∧ σ' 57 9 = 1 ∧ jx_jd σ') := by
      intro σ' v' a3 h1 h2 h3
      match f, hk with
      | 0, hk => omega
      | f + 1, hk => exact jx_judge_3 (l := l + 1) hI0 hK f (by omega) h2 h3
    have HF := H.1
    have hcb0 := (jx_I0_x hI0).2.2.2.2.2.2.2.2.1
    have hcb0n := hcb0.1
    have hl20 : (l : Int) ≤ 20 := by omega
    have hR : (σ0 103 56 ≤ (l : Int) ∨ v ≠ 0) → (none : Option jw_V) = none ∧ jx_fj σ0 σ ∧ σ 57 9 = 1 ∧ jx_jd σ := by
      intro h1
      refine ⟨rfl, jx_j3_end hK H (fun a => ?_)⟩
      rcases hv with hv | ⟨-, hv⟩
      · have := jm_lv_n hcb0 a
        rw [show (σ0 103 56).toNat = l by omega] at this
        exact this
      · exact hv a
    have hme := jx_fj_me HF
    have e56 : σ 103 56 = σ0 103 56 := by rw [hme 103 (by omega)]
    have hI := jx_I0_fj HF hI0
    have hpq0 := jx_pq_tr hI.1.2.2.2 (jx_me_pq hme)
    have hP0 := (jx_I0_x hI0).2.2.2.2.2.2.2.1
    obtain ⟨hto, hfo, hp, hP, e0, e1, e2, hPm, hcb, c0, p0, -⟩ := jx_I0_x hI
    have ho := hp.1
    have hq := hP.1
    have hw := hP.2.1
    have hq2 := hP.2.2.1
    have hcn := hcb.1
    refine jw_W_n 2 (i' := 116) (ls' := [some (.inr (.inr 57)), some (.inl v), some (.inl l), a3]) (st' := [.inr (.inr 57), .inl l]) rfl ?_
    refine jw_W_gf rfl rfl rfl ?_
    show jw_W (js_S n) _ md_2 117 [some (.inr (.inr 57)), some (.inl v), some (.inl l), a3] [.inl (σ 57 0), .inl l] σ _
    refine jw_W_ic rfl (by unfold jw_rg; omega) (by unfold jw_rg; omega) (fun hc1 => ?_) (fun hc1 => ?_)
    · have hc1 : l ≥ (σ 57 0) := hc1
      refine jw_W_re rfl ?_
      exact hR (by omega)
    · have hc1 : ¬ (l ≥ (σ 57 0)) := hc1
      refine jw_W_n 1 (i' := 119) (ls' := [some (.inr (.inr 57)), some (.inl v), some (.inl l), a3]) (st' := [.inl v]) rfl ?_
      refine jw_W_if rfl (by unfold jw_rg; omega) (fun hc2 => ?_) (fun hc2 => ?_)
      · have hc2 : v ≠ 0 := hc2
        refine jw_W_re rfl ?_
        exact hR (by omega)
      · have hc2 : v = 0 := Classical.not_not.mp hc2
        refine jw_W_n 2 (i' := 122) (ls' := [some (.inr (.inr 57)), some (.inl v), some (.inl l), a3]) (st' := [.inl l, .inr (.inr 57)]) rfl ?_
        refine jw_W_call (as := [.inr (.inr 57), .inl l]) (rest := []) rfl rfl rfl rfl (Nat.le_of_ble_eq_true rfl) (.inr rfl) (jx_peel hI (l := l) hl20 (jx_ly_me hme H.2.2.2)) (by omega) ?_ rfl
        rintro r1 σ1 ⟨m, rfl, q1, q2, q3, q4, q5, q6⟩
        have hm01 : m = 0 ∨ m = 1 := by rcases q6 with ⟨e, -⟩ | ⟨e, -⟩ <;> omega
        have H5 := jx_j3_s hme H (by omega) q1 q2 q3 q4 q5
        show jw_W (js_S n) _ md_2 123 [some (.inr (.inr 57)), some (.inl v), some (.inl l), a3] [.inl m] σ1 _
        refine jw_W_if rfl (by unfold jw_rg; omega) (fun hc3 => ?_) (fun hc3 => ?_)
        · have hc3 : m ≠ 0 := hc3
          refine jw_W_n 4 (i' := 114) (ls' := [some (.inr (.inr 57)), some (.inl 0), some (.inl (l + 1)), a3]) (st' := []) rfl ?_
          exact ih (by omega) (.inl rfl) H5
        · have hc3 : m = 0 := Classical.not_not.mp hc3
          refine jw_W_n 5 (i' := 114) (ls' := [some (.inr (.inr 57)), some (.inl 1), some (.inl (l + 1)), a3]) (st' := []) rfl ?_
          refine ih (by omega) (.inr ⟨rfl, fun a ha => ?_⟩) H5
          obtain ⟨b, b1, b2⟩ := jm_lv_go hcb0 (jm_lv_dn (show l ≤ l + 1 by omega) ha)
          have hb := jm_lv_in b1
          rcases q6 with ⟨e, -⟩ | ⟨-, q6⟩
          · omega
          · have := q6 b hb.1 (by rw [e56]; exact hb.2) ((jx_me_lv hme _ _).mpr b1)
            exact b2 ((jx_me_lv hme _ _).mp this)
theorem jx_judge {n : Nat} {σ : jw_H} {o : Nat} {C : List (ge_R × Int)} (hI : jx_I0 n σ o C) (hK : jm_KN σ C) (hj : σ 57 9 = 0 ∨ σ 57 9 = 1 ∧ jx_jd σ) : jw_T (js_S n) 7 2 [.inr (.inr 57)] σ (fun r σ' => r = none ∧ jx_fj σ σ' ∧ σ' 57 9 = 1 ∧ jx_jd σ') := by
  refine jw_T_of (D := 6) (M := mm_2) rfl (Nat.le_of_ble_eq_true rfl) (ls0 := [some (.inr (.inr 57)), none, none, none]) rfl ?_ (by rintro _ _ ⟨rfl, -⟩; rfl)
  obtain ⟨hto, hfo, hp, hP, e0, e1, e2, hPm, hcb, c0, p0, -⟩ := jx_I0_x hI
  have ho := hp.1
  have hq := hP.1
  have hw := hP.2.1
  have hq2 := hP.2.2.1
  have hcn := hcb.1
  refine jw_W_n 1 (i' := 1) (ls' := [some (.inr (.inr 57)), none, none, none]) (st' := [.inr (.inr 57)]) rfl ?_
  refine jw_W_gf rfl rfl rfl ?_
  show jw_W (js_S n) _ md_2 2 [some (.inr (.inr 57)), none, none, none] [.inl (σ 57 9)] σ _
  refine jw_W_if rfl (by unfold jw_rg; omega) (fun hc1 => ?_) (fun hc1 => ?_)
  · have hc1 : (σ 57 9) = 0 := hc1
    refine jw_W_n 2 (i' := 6) (ls' := [some (.inr (.inr 57)), none, none, none]) (st' := [.inl 1, .inr (.inr 57)]) rfl ?_
    refine jw_W_pf (a := 1) rfl (by omega) rfl rfl rfl rfl rfl ?_
    refine jw_W_n 2 (i' := 9) (ls' := [some (.inr (.inr 57)), some (.inl 0), none, none]) (st' := []) rfl ?_
    refine jx_judge_1 (D := 6) (by omega) hI (fun σ3 H3 => ?_) (σ 103 56).toNat (i := 0) (by omega) (by omega) ⟨jx_fj_up (jx_fj_rf σ) (.inr ⟨rfl, rfl⟩), jw_up_eq _ _ _ _, fun c c0 c1 => by omega⟩
    refine jw_W_n 2 (i' := 32) (ls' := [some (.inr (.inr 57)), some (.inl 0), none, none]) (st' := []) rfl ?_
    refine jx_judge_2 (D := 6) (by omega) hI (fun σ4 a2 a3 H4 => ?_) (σ 103 56).toNat (i := 0) (by omega) (by omega) ⟨H3, fun a c a0 a1 c0 c1 hd => by unfold jm_dn at hd; omega⟩
    have H5 := jx_j2_3 H4
    have e4 : σ4 57 0 = σ 103 56 := by rw [H5.1.2 0 (by omega)]; exact c0
    refine jw_W_n 1 (i' := 106) (ls' := [some (.inr (.inr 57)), some (.inl (σ 103 56)), a2, a3]) (st' := [.inr (.inr 57)]) rfl ?_
    refine jw_W_gf rfl rfl rfl ?_
    show jw_W (js_S n) _ md_2 107 [some (.inr (.inr 57)), some (.inl (σ 103 56)), a2, a3] [.inl (σ4 57 0)] σ4 _
    rw [e4]
    refine jw_W_if rfl (by unfold jw_rg; omega) (fun hc1 => ?_) (fun hc1 => ?_)
    · have hc1 : σ 103 56 ≠ 0 := hc1
      refine jw_W_n 4 (i' := 114) (ls' := [some (.inr (.inr 57)), some (.inl 0), some (.inl 0), a3]) (st' := []) rfl ?_
      exact jx_judge_3 hI hK (σ 103 56).toNat (l := 0) (by omega) (.inl rfl) H5
    · have hc1 : σ 103 56 = 0 := Classical.not_not.mp hc1
      refine jw_W_n 5 (i' := 114) (ls' := [some (.inr (.inr 57)), some (.inl 1), some (.inl 0), a3]) (st' := []) rfl ?_
      exact jx_judge_3 hI hK (σ 103 56).toNat (l := 0) (by omega) (.inr ⟨rfl, fun a ha => by have := jm_lv_in ha; omega⟩) H5
  · have hc1 : ¬ ((σ 57 9) = 0) := hc1
    refine jw_W_re rfl ?_
    exact ⟨rfl, jx_fj_rf σ, by omega, hj.resolve_left (by omega) |>.2⟩

/-! ===== class and reference: the same problem, the same corners ===== -/
/-- a problem with its corners -/
def jm_kw (σ : jw_H) (C : List (ge_R × Int)) : Prop := jm_Pb σ ∧ jm_kn σ C ∧ jm_flat (σ 103 3) (jm_bA σ) ∧ jm_key (jm_bA σ) ∧ jm_Ns σ ∧ True
theorem jm_kw_cbd {σ0 : jw_H} {C : List (ge_R × Int)} (h : jm_kw σ0 C) : C.length ≤ 20 ∧ ∀ σ, jm_fk σ0 σ → jm_cbd σ := by
  obtain ⟨hP, hK, -⟩ := h
  have hl := jm_kn_len hP hK.2.1
  refine ⟨hl, fun σ a => ?_⟩
  have hK' := jm_fk_kn a hK
  have hP' := jm_fk_Pb a hP
  refine ⟨by rw [hK'.1.1]; omega, fun i i0 i1 => ?_⟩
  rw [hK'.1.1] at i1
  have hx := List.getElem?_eq_getElem (show i.toNat < C.length by omega)
  have e := (hK'.1.2 _ _ hx).1
  rw [Int.toNat_of_nonneg i0] at e
  have b := jm_kn_bd hP hK _ (List.getElem_mem (show i.toNat < C.length by omega))
  rw [e]
  exact ⟨b.1, b.2.1⟩
/-- class and reference hold the same problem and the same corners -/
def jx_I0 (n : Nat) (σ : jw_H) (o : Nat) (C : List (ge_R × Int)) : Prop := (σ 13 2 = (o : Int) ∧ jx_po n o ∧ jx_Pb σ o ∧ jx_pq (jx_M σ o) σ) ∧ ((σ 57 6).toNat = o ∧ σ 57 0 = σ 103 56 ∧ σ 58 0 = σ 103 56 ∧ ∀ i, 0 ≤ i → i < σ 103 56 → jx_pt σ 58 i = jm_ct σ i ∧ σ 63 i = σ 136 i) ∧ jm_kw σ C
theorem jx_I0_x {n : Nat} {σ : jw_H} {o : Nat} {C : List (ge_R × Int)} (h : jx_I0 n σ o C) : (σ 13 2).toNat = o ∧ (σ 57 6).toNat = o ∧ jx_po n o ∧ jx_Pb σ o ∧ σ o 0 = σ 103 3 ∧ σ o 1 = σ 103 4 ∧ σ o 2 = σ 103 5 ∧ jm_Pb σ ∧ jm_cbd σ ∧ σ 57 0 = σ 103 56 ∧ σ 58 0 = σ 103 56 ∧ C.length ≤ 20 := by
  obtain ⟨⟨h1, h2, h3, h4⟩, ⟨h5, h6, h7, h8⟩, h9⟩ := h
  have hb := jm_kw_cbd h9
  exact ⟨by omega, h5, h2, h3, h4.1.1, h4.1.2.1, h4.1.2.2, h9.1, hb.2 σ (jm_fk_rf σ), h6, h7, hb.1⟩
/-- a corner -/
theorem jx_I0_c {n : Nat} {σ : jw_H} {o : Nat} {C : List (ge_R × Int)} (h : jx_I0 n σ o C) {i : Int} (i0 : 0 ≤ i) (i1 : i < σ 103 56) : jx_pt σ 58 i = jm_ct σ i ∧ σ 63 i = σ 136 i ∧ ge_V (jm_R σ) (jm_ct σ i) ∧ ge_g (jm_ct σ i) = 1 ∧ jm_tau (jm_bA σ) (jm_ct σ i) (σ 136 i) ∧ ∃ x, C[i.toNat]? = some x ∧ x.1 = jm_ct σ i := by
  have h8 := h.2.1.2.2.2 i i0 i1
  have hc := h.2.2.2.1
  have hl := hc.1.1
  have hg := List.getElem?_eq_getElem (l := C) (i := i.toNat) (by omega)
  have e := hc.1.2 _ _ hg
  rw [Int.toNat_of_nonneg i0] at e
  have hm := hc.2.1.1 _ (List.getElem_mem (l := C) (n := i.toNat) (by omega))
  rw [← e.1, ← e.2] at hm
  exact ⟨h8.1, h8.2, hm.1, hm.2.1, hm.2.2, _, hg, e.1.symm⟩
theorem jx_ct_bd {σ : jw_H} (hb : jm_cbd σ) {i : Int} (i0 : 0 ≤ i) (i1 : i < σ 103 56) : jx_bd (jm_ct σ i) := by
  have h := hb.2 i i0 i1
  obtain ⟨⟨h1, h2, h3, h4⟩, h5⟩ := h
  unfold jx_bd
  omega
theorem jx_I0_pb {n : Nat} {σ : jw_H} {o : Nat} {C : List (ge_R × Int)} (h : jx_I0 n σ o C) : jx_pb σ 58 := by
  obtain ⟨-, -, -, -, -, -, -, -, hb, -, p0, -⟩ := jx_I0_x h
  have := hb.1
  refine ⟨by omega, fun i i0 i1 => ?_⟩
  rw [(jx_I0_c h i0 (by omega)).1]
  exact jx_ct_bd hb i0 (by omega)
theorem jx_I0_W {n : Nat} {σ : jw_H} {o : Nat} {C : List (ge_R × Int)} (h : jx_I0 n σ o C) {w : Int} (w0 : 0 ≤ w) (w1 : w < σ 103 4) : jx_G σ (o + 1) (3 * w) = jm_W σ w ∧ jx_Gb (jm_W σ w) := by
  refine ⟨jx_pq_W h.1.2.2.2 w0 w1, jx_W_Gb h.2.2.1 w0 w1⟩
/-- how much a wish changes from a corner to another one -/
theorem jx_chW {n : Nat} {σ : jw_H} {o : Nat} {C : List (ge_R × Int)} (h : jx_I0 n σ o C) {i j w : Int} (i0 : 0 ≤ i) (i1 : i < σ 103 56) (j0 : 0 ≤ j) (j1 : j < σ 103 56) (w0 : 0 ≤ w) (w1 : w < σ 103 4) : jw_T (js_S n) 2 64 [.inr (.inr 58), .inl i, .inl j, .inr (.inr (o + 1)), .inl (3 * w)] σ (fun r σ' => r = some (.inr (.inl (ge_f (jm_W σ w) (jm_ct σ j) * σ 135 i - ge_f (jm_W σ w) (jm_ct σ i) * σ 135 j))) ∧ σ' = σ) := by
  obtain ⟨-, -, hp, -, -, -, -, hP, hb, -, -, -⟩ := jx_I0_x h
  have hbm := hb.1
  have hw := hP.2.1
  obtain ⟨e1, e2⟩ := jx_I0_W h w0 w1
  have ci := (jx_I0_c h i0 i1).1
  have cj := (jx_I0_c h j0 j1).1
  refine jw_T_mono (jx_change (jx_pp_58 n) hp.2.2.1 (by omega) (by omega) (by omega) i0 (by omega) j0 (by omega) (by rw [e1]; exact e2) (by rw [ci]; exact jx_ct_bd hb i0 i1) (by rw [cj]; exact jx_ct_bd hb j0 j1)) (Nat.le_refl _) ?_
  rintro r σ' ⟨h1, h2⟩
  rw [e1, ci, cj] at h1
  exact ⟨h1, h2⟩
theorem jx_lead {n : Nat} {σ : jw_H} {o : Nat} {C : List (ge_R × Int)} (hI : jx_I0 n σ o C) {i j w : Int} (i0 : 0 ≤ i) (i1 : i < σ 103 56) (j0 : 0 ≤ j) (j1 : j < σ 103 56) (w0 : 0 ≤ w) (w1 : w < σ 103 4) : jw_T (js_S n) 3 15 [.inr (.inr 57), .inl i, .inl j, .inl w] σ (fun r σ' => r = some (.inr (.inl (ge_f (jm_W σ w) (jm_ct σ i) * σ 135 j - ge_f (jm_W σ w) (jm_ct σ j) * σ 135 i))) ∧ σ' = σ) := by
  refine jw_T_of (D := 2) (M := mm_15) rfl (Nat.le_of_ble_eq_true rfl) (ls0 := [some (.inr (.inr 57)), some (.inl i), some (.inl j), some (.inl w)]) rfl ?_ (by rintro _ _ ⟨rfl, -⟩; rfl)
  obtain ⟨hto, hfo, hp, hP, e0, e1, e2, hPm, hcb, c0, p0, -⟩ := jx_I0_x hI
  have ho := hp.1
  have hq := hP.1
  have hw := hP.2.1
  have hq2 := hP.2.2.1
  have hcn := hcb.1
  refine jw_W_n 1 (i' := 1) (ls' := [some (.inr (.inr 57)), some (.inl i), some (.inl j), some (.inl w)]) (st' := [.inr (.inr 57)]) rfl ?_
  refine jw_W_gf rfl rfl rfl ?_
  show jw_W (js_S n) _ md_15 2 [some (.inr (.inr 57)), some (.inl i), some (.inl j), some (.inl w)] [.inr (.inr 58)] σ _
  refine jw_W_n 3 (i' := 5) (ls' := [some (.inr (.inr 57)), some (.inl i), some (.inl j), some (.inl w)]) (st' := [.inr (.inr 57), .inl i, .inl j, .inr (.inr 58)]) rfl ?_
  refine jw_W_gf rfl rfl rfl ?_
  show jw_W (js_S n) _ md_15 6 [some (.inr (.inr 57)), some (.inl i), some (.inl j), some (.inl w)] [.inr (.inr ((σ 57 6).toNat)), .inl i, .inl j, .inr (.inr 58)] σ _
  rw [hfo]
  refine jw_W_gf rfl hp.2.1 rfl ?_
  show jw_W (js_S n) _ md_15 7 [some (.inr (.inr 57)), some (.inl i), some (.inl j), some (.inl w)] [.inr (.inr (o + 1)), .inl i, .inl j, .inr (.inr 58)] σ _
  refine jw_W_n 3 (i' := 10) (ls' := [some (.inr (.inr 57)), some (.inl i), some (.inl j), some (.inl w)]) (st' := [.inl (3 * w), .inr (.inr (o + 1)), .inl i, .inl j, .inr (.inr 58)]) rfl ?_
  refine jw_W_call (as := [.inr (.inr 58), .inl j, .inl i, .inr (.inr (o + 1)), .inl (3 * w)]) (rest := []) rfl rfl rfl rfl (Nat.le_of_ble_eq_true rfl) (.inr rfl) (jx_chW hI (by omega) (by omega) (by omega) (by omega) (by omega) (by omega)) (by omega) ?_ rfl
  rintro r1 σz ⟨rfl, hs⟩
  rw [hs]
  have q1 := jm_f_w hPm hcb (k := w) (i := j) (j := i) (by omega) (by omega) (by omega) (by omega) (by omega) (by omega)
  have q2 := jm_f_w hPm hcb (k := w) (i := i) (j := j) (by omega) (by omega) (by omega) (by omega) (by omega) (by omega)
  show jw_W (js_S n) _ md_15 11 [some (.inr (.inr 57)), some (.inl i), some (.inl j), some (.inl w)] [.inr (.inl (ge_f (jm_W σ w) (jm_ct σ i) * σ 135 j - ge_f (jm_W σ w) (jm_ct σ j) * σ 135 i))] σ _
  refine jw_W_lr rfl ?_
  exact ⟨rfl, rfl⟩
theorem jx_beats_loop {n : Nat} {σ : jw_H} {o : Nat} {C : List (ge_R × Int)} {i j : Int} (hI : jx_I0 n σ o C) (i0 : 0 ≤ i) (i1 : i < σ 103 56) (j0 : 0 ≤ j) (j1 : j < σ 103 56) : ∀ (f : Nat) {t m : Int} {v v2 : Option jw_V}, 0 ≤ t → t + f = σ 103 4 → (m = 0 ∨ m = 1) → jm_bo σ j i t m → jw_W (js_S n) 2 md_12 4 [some (.inr (.inr 57)), some (.inl j), some (.inl i), some (.inl m), some (.inl t), v, v2] [] σ (fun r σ' => (r = some (.inl 1) ∧ σ' = σ ∧ (ge_bt (jm_F σ) (jm_ct σ i) (jm_ct σ j))) ∨ (r = some (.inl 0) ∧ σ' = σ ∧ ¬ (ge_bt (jm_F σ) (jm_ct σ i) (jm_ct σ j))))
  | f, t, m, v, v2, t0, hk, hm, H => by
    have ih : ∀ {m' : Int} {v v2 : Option jw_V}, t < σ 103 4 → jm_bo σ j i (t + 1) m' → jw_W (js_S n) 2 md_12 4 [some (.inr (.inr 57)), some (.inl j), some (.inl i), some (.inl m'), some (.inl (t + 1)), v, v2] [] σ (fun r σ' => (r = some (.inl 1) ∧ σ' = σ ∧ (ge_bt (jm_F σ) (jm_ct σ i) (jm_ct σ j))) ∨ (r = some (.inl 0) ∧ σ' = σ ∧ ¬ (ge_bt (jm_F σ) (jm_ct σ i) (jm_ct σ j)))) := by
      intro m' v v2 h1 h2
      match f, hk with
      | 0, hk => omega
      | f + 1, hk => exact jx_beats_loop hI i0 i1 j0 j1 f (by omega) (by omega) (by rcases h2.2 with ⟨e, -⟩ | ⟨e, -⟩ <;> omega) h2
    obtain ⟨hto, hfo, hp, hP, e0, e1, e2, hPm, hcb, c0, p0, -⟩ := jx_I0_x hI
    have ho := hp.1
    have hq := hP.1
    have hw := hP.2.1
    have hq2 := hP.2.2.1
    have hcn := hcb.1
    refine jw_W_n 2 (i' := 6) (ls' := [some (.inr (.inr 57)), some (.inl j), some (.inl i), some (.inl m), some (.inl t), v, v2]) (st' := [.inr (.inr 57), .inl t]) rfl ?_
    refine jw_W_gf rfl rfl rfl ?_
    show jw_W (js_S n) _ md_12 7 [some (.inr (.inr 57)), some (.inl j), some (.inl i), some (.inl m), some (.inl t), v, v2] [.inr (.inr ((σ 57 6).toNat)), .inl t] σ _
    rw [hfo]
    refine jw_W_gf rfl hp.2.1 rfl ?_
    show jw_W (js_S n) _ md_12 8 [some (.inr (.inr 57)), some (.inl j), some (.inl i), some (.inl m), some (.inl t), v, v2] [.inl (σ o 1), .inl t] σ _
    refine jw_W_ic rfl (by unfold jw_rg; omega) (by unfold jw_rg; omega) (fun hc1 => ?_) (fun hc1 => ?_)
    · have hc1 : t ≥ (σ o 1) := hc1
      refine jw_W_n 1 (i' := 40) (ls' := [some (.inr (.inr 57)), some (.inl j), some (.inl i), some (.inl m), some (.inl t), v, v2]) (st' := [.inl m]) rfl ?_
      refine jw_W_ir rfl ?_
      have hkl : t = σ 103 4 := by omega
      subst hkl
      exact jm_bo_end H
    · have hc1 : ¬ (t ≥ (σ o 1)) := hc1
      refine jw_W_n 1 (i' := 10) (ls' := [some (.inr (.inr 57)), some (.inl j), some (.inl i), some (.inl m), some (.inl t), v, v2]) (st' := [.inr (.inr 57)]) rfl ?_
      refine jw_W_gf rfl rfl rfl ?_
      show jw_W (js_S n) _ md_12 11 [some (.inr (.inr 57)), some (.inl j), some (.inl i), some (.inl m), some (.inl t), v, v2] [.inr (.inr 58)] σ _
      refine jw_W_n 3 (i' := 14) (ls' := [some (.inr (.inr 57)), some (.inl j), some (.inl i), some (.inl m), some (.inl t), v, v2]) (st' := [.inr (.inr 57), .inl j, .inl i, .inr (.inr 58)]) rfl ?_
      refine jw_W_gf rfl rfl rfl ?_
      show jw_W (js_S n) _ md_12 15 [some (.inr (.inr 57)), some (.inl j), some (.inl i), some (.inl m), some (.inl t), v, v2] [.inr (.inr ((σ 57 6).toNat)), .inl j, .inl i, .inr (.inr 58)] σ _
      rw [hfo]
      refine jw_W_gf rfl hp.2.1 rfl ?_
      show jw_W (js_S n) _ md_12 16 [some (.inr (.inr 57)), some (.inl j), some (.inl i), some (.inl m), some (.inl t), v, v2] [.inr (.inr (o + 1)), .inl j, .inl i, .inr (.inr 58)] σ _
      refine jw_W_n 3 (i' := 19) (ls' := [some (.inr (.inr 57)), some (.inl j), some (.inl i), some (.inl m), some (.inl t), v, v2]) (st' := [.inl (3 * t), .inr (.inr (o + 1)), .inl j, .inl i, .inr (.inr 58)]) rfl ?_
      refine jw_W_call (as := [.inr (.inr 58), .inl i, .inl j, .inr (.inr (o + 1)), .inl (3 * t)]) (rest := []) rfl rfl rfl rfl (Nat.le_of_ble_eq_true rfl) (.inr rfl) (jx_chW hI (by omega) (by omega) (by omega) (by omega) (by omega) (by omega)) (by omega) ?_ rfl
      rintro r1 σz ⟨rfl, hs⟩
      rw [hs]
      have q1 := jm_f_w hPm hcb (k := t) (i := i) (j := j) (by omega) (by omega) (by omega) (by omega) (by omega) (by omega)
      have q2 := jm_f_w hPm hcb (k := t) (i := j) (j := i) (by omega) (by omega) (by omega) (by omega) (by omega) (by omega)
      show jw_W (js_S n) _ md_12 20 [some (.inr (.inr 57)), some (.inl j), some (.inl i), some (.inl m), some (.inl t), v, v2] [.inr (.inl (ge_f (jm_W σ t) (jm_ct σ j) * σ 135 i - ge_f (jm_W σ t) (jm_ct σ i) * σ 135 j))] σ _
      refine jw_W_n 3 (i' := 23) (ls' := [some (.inr (.inr 57)), some (.inl j), some (.inl i), some (.inl m), some (.inl t), some (.inr (.inl (ge_f (jm_W σ t) (jm_ct σ j) * σ 135 i - ge_f (jm_W σ t) (jm_ct σ i) * σ 135 j))), none]) (st' := [.inr (.inl 0), .inr (.inl (ge_f (jm_W σ t) (jm_ct σ j) * σ 135 i - ge_f (jm_W σ t) (jm_ct σ i) * σ 135 j))]) rfl ?_
      refine jw_W_lc rfl rfl (by unfold jw_rgl; omega) (by unfold jw_rgl; omega) (fun hc2 => ?_) (fun hc2 => ?_)
      · have hc2 : (ge_f (jm_W σ t) (jm_ct σ j) * σ 135 i - ge_f (jm_W σ t) (jm_ct σ i) * σ 135 j) ≥ 0 := hc2
        refine jw_W_n 1 (i' := 28) (ls' := [some (.inr (.inr 57)), some (.inl j), some (.inl i), some (.inl m), some (.inl t), some (.inr (.inl (ge_f (jm_W σ t) (jm_ct σ j) * σ 135 i - ge_f (jm_W σ t) (jm_ct σ i) * σ 135 j))), none]) (st' := [.inl m]) rfl ?_
        refine jw_W_if rfl (by unfold jw_rg; omega) (fun hc3 => ?_) (fun hc3 => ?_)
        · have hc3 : m ≠ 0 := hc3
          refine jw_W_n 5 (i' := 4) (ls' := [some (.inr (.inr 57)), some (.inl j), some (.inl i), some (.inl 1), some (.inl (t + 1)), some (.inr (.inl (ge_f (jm_W σ t) (jm_ct σ j) * σ 135 i - ge_f (jm_W σ t) (jm_ct σ i) * σ 135 j))), none]) (st' := []) rfl ?_
          exact ih (by omega) (jm_bo_1 t0 H (by unfold jm_kl; omega) (by first | exact .inl (by assumption) | exact .inr (by unfold jm_kb; omega)))
        · have hc3 : m = 0 := Classical.not_not.mp hc3
          refine jw_W_n 2 (i' := 31) (ls' := [some (.inr (.inr 57)), some (.inl j), some (.inl i), some (.inl m), some (.inl t), some (.inr (.inl (ge_f (jm_W σ t) (jm_ct σ j) * σ 135 i - ge_f (jm_W σ t) (jm_ct σ i) * σ 135 j))), none]) (st' := [.inr (.inl 0), .inr (.inl (ge_f (jm_W σ t) (jm_ct σ j) * σ 135 i - ge_f (jm_W σ t) (jm_ct σ i) * σ 135 j))]) rfl ?_
          refine jw_W_lc rfl rfl (by unfold jw_rgl; omega) (by unfold jw_rgl; omega) (fun hc4 => ?_) (fun hc4 => ?_)
          · have hc4 : (ge_f (jm_W σ t) (jm_ct σ j) * σ 135 i - ge_f (jm_W σ t) (jm_ct σ i) * σ 135 j) ≤ 0 := hc4
            refine jw_W_n 4 (i' := 4) (ls' := [some (.inr (.inr 57)), some (.inl j), some (.inl i), some (.inl 0), some (.inl (t + 1)), some (.inr (.inl (ge_f (jm_W σ t) (jm_ct σ j) * σ 135 i - ge_f (jm_W σ t) (jm_ct σ i) * σ 135 j))), none]) (st' := []) rfl ?_
            exact ih (by omega) (jm_bo_0 H (by unfold jm_kl; omega) (by omega) (by unfold jm_kb; omega))
          · have hc4 : ¬ ((ge_f (jm_W σ t) (jm_ct σ j) * σ 135 i - ge_f (jm_W σ t) (jm_ct σ i) * σ 135 j) ≤ 0) := hc4
            refine jw_W_n 5 (i' := 4) (ls' := [some (.inr (.inr 57)), some (.inl j), some (.inl i), some (.inl 1), some (.inl (t + 1)), some (.inr (.inl (ge_f (jm_W σ t) (jm_ct σ j) * σ 135 i - ge_f (jm_W σ t) (jm_ct σ i) * σ 135 j))), none]) (st' := []) rfl ?_
            exact ih (by omega) (jm_bo_1 t0 H (by unfold jm_kl; omega) (by first | exact .inl (by assumption) | exact .inr (by unfold jm_kb; omega)))
      · have hc2 : ¬ ((ge_f (jm_W σ t) (jm_ct σ j) * σ 135 i - ge_f (jm_W σ t) (jm_ct σ i) * σ 135 j) ≥ 0) := hc2
        refine jw_W_n 1 (i' := 26) (ls' := [some (.inr (.inr 57)), some (.inl j), some (.inl i), some (.inl m), some (.inl t), some (.inr (.inl (ge_f (jm_W σ t) (jm_ct σ j) * σ 135 i - ge_f (jm_W σ t) (jm_ct σ i) * σ 135 j))), none]) (st' := [.inl 0]) rfl ?_
        refine jw_W_ir rfl ?_
        exact .inr ⟨rfl, rfl, fun hh => by have := (jm_above.mp hh).1 t t0 (by omega); unfold jm_kl at this; omega⟩
theorem jx_beats {n : Nat} {σ : jw_H} {o : Nat} {C : List (ge_R × Int)} (hI : jx_I0 n σ o C) {i j : Int} (i0 : 0 ≤ i) (i1 : i < σ 103 56) (j0 : 0 ≤ j) (j1 : j < σ 103 56) : jw_T (js_S n) 3 12 [.inr (.inr 57), .inl j, .inl i] σ (fun r σ' => (r = some (.inl 1) ∧ σ' = σ ∧ (ge_bt (jm_F σ) (jm_ct σ i) (jm_ct σ j))) ∨ (r = some (.inl 0) ∧ σ' = σ ∧ ¬ (ge_bt (jm_F σ) (jm_ct σ i) (jm_ct σ j)))) := by
  refine jw_T_of (D := 2) (M := mm_12) rfl (Nat.le_of_ble_eq_true rfl) (ls0 := [some (.inr (.inr 57)), some (.inl j), some (.inl i), none, none, none, none]) rfl ?_ (by rintro _ _ (⟨rfl, -⟩ | ⟨rfl, -⟩) <;> rfl)
  obtain ⟨hto, hfo, hp, hP, e0, e1, e2, hPm, hcb, c0, p0, -⟩ := jx_I0_x hI
  have ho := hp.1
  have hq := hP.1
  have hw := hP.2.1
  have hq2 := hP.2.2.1
  have hcn := hcb.1
  refine jw_W_n 4 (i' := 4) (ls' := [some (.inr (.inr 57)), some (.inl j), some (.inl i), some (.inl 0), some (.inl 0), none, none]) (st' := []) rfl ?_
  exact jx_beats_loop hI i0 i1 j0 j1 (σ 103 4).toNat (t := 0) (m := 0) (by omega) (by omega) (.inl rfl) ⟨fun k k0 k1 => by omega, .inr ⟨rfl, fun k k0 k1 => by omega⟩⟩
theorem jx_isBeaten_loop {n : Nat} {σ : jw_H} {o : Nat} {C : List (ge_R × Int)} {i l : Int} (hI : jx_I0 n σ o C) (i0 : 0 ≤ i) (i1 : i < σ 103 56) (hl : jw_rg l) (hL : ∀ c, 0 ≤ c → c < σ 103 56 → jw_rg (σ 64 c)) : ∀ (f : Nat) {j : Int}, 0 ≤ j → j + f = σ 103 56 → ¬ (∃ c, 0 ≤ c ∧ c < j ∧ (σ 64 c < 0 ∨ σ 64 c = l) ∧ ge_bt (jm_F σ) (jm_ct σ i) (jm_ct σ c)) → jw_W (js_S n) 3 md_11 2 [some (.inr (.inr 57)), some (.inl i), some (.inl l), some (.inl j)] [] σ (fun r σ' => (r = some (.inl 1) ∧ σ' = σ ∧ (∃ c, 0 ≤ c ∧ c < σ 103 56 ∧ (σ 64 c < 0 ∨ σ 64 c = l) ∧ ge_bt (jm_F σ) (jm_ct σ i) (jm_ct σ c))) ∨ (r = some (.inl 0) ∧ σ' = σ ∧ ¬ (∃ c, 0 ≤ c ∧ c < σ 103 56 ∧ (σ 64 c < 0 ∨ σ 64 c = l) ∧ ge_bt (jm_F σ) (jm_ct σ i) (jm_ct σ c))))
  | f, j, j0, hk, H => by
    have ih : j < σ 103 56 → ¬ (∃ c, 0 ≤ c ∧ c < (j + 1) ∧ (σ 64 c < 0 ∨ σ 64 c = l) ∧ ge_bt (jm_F σ) (jm_ct σ i) (jm_ct σ c)) → jw_W (js_S n) 3 md_11 2 [some (.inr (.inr 57)), some (.inl i), some (.inl l), some (.inl (j + 1))] [] σ (fun r σ' => (r = some (.inl 1) ∧ σ' = σ ∧ (∃ c, 0 ≤ c ∧ c < σ 103 56 ∧ (σ 64 c < 0 ∨ σ 64 c = l) ∧ ge_bt (jm_F σ) (jm_ct σ i) (jm_ct σ c))) ∨ (r = some (.inl 0) ∧ σ' = σ ∧ ¬ (∃ c, 0 ≤ c ∧ c < σ 103 56 ∧ (σ 64 c < 0 ∨ σ 64 c = l) ∧ ge_bt (jm_F σ) (jm_ct σ i) (jm_ct σ c)))) := by
      intro h1 h2
      match f, hk with
      | 0, hk => omega
      | f + 1, hk => exact jx_isBeaten_loop hI i0 i1 hl hL f (by omega) (by omega) h2
    obtain ⟨hto, hfo, hp, hP, e0, e1, e2, hPm, hcb, c0, p0, -⟩ := jx_I0_x hI
    have ho := hp.1
    have hq := hP.1
    have hw := hP.2.1
    have hq2 := hP.2.2.1
    have hcn := hcb.1
    have hLj := fun (hh : j < σ 103 56) => hL j j0 hh
    unfold jw_rg at hl hLj
    refine jw_W_n 2 (i' := 4) (ls' := [some (.inr (.inr 57)), some (.inl i), some (.inl l), some (.inl j)]) (st' := [.inr (.inr 57), .inl j]) rfl ?_
    refine jw_W_gf rfl rfl rfl ?_
    show jw_W (js_S n) _ md_11 5 [some (.inr (.inr 57)), some (.inl i), some (.inl l), some (.inl j)] [.inl (σ 57 0), .inl j] σ _
    refine jw_W_ic rfl (by unfold jw_rg; omega) (by unfold jw_rg; omega) (fun hc1 => ?_) (fun hc1 => ?_)
    · have hc1 : j ≥ (σ 57 0) := hc1
      refine jw_W_n 1 (i' := 27) (ls' := [some (.inr (.inr 57)), some (.inl i), some (.inl l), some (.inl j)]) (st' := [.inl 0]) rfl ?_
      refine jw_W_ir rfl ?_
      have hkl : j = σ 103 56 := by omega
      subst hkl
      exact .inr ⟨rfl, rfl, H⟩
    · have hc1 : ¬ (j ≥ (σ 57 0)) := hc1
      refine jw_W_n 1 (i' := 7) (ls' := [some (.inr (.inr 57)), some (.inl i), some (.inl l), some (.inl j)]) (st' := [.inr (.inr 57)]) rfl ?_
      refine jw_W_gf rfl rfl rfl ?_
      show jw_W (js_S n) _ md_11 8 [some (.inr (.inr 57)), some (.inl i), some (.inl l), some (.inl j)] [.inr (.inr 64)] σ _
      refine jw_W_n 1 (i' := 9) (ls' := [some (.inr (.inr 57)), some (.inl i), some (.inl l), some (.inl j)]) (st' := [.inl j, .inr (.inr 64)]) rfl ?_
      refine jw_W_ia rfl rfl (by omega) (by omega) (by omega) ?_
      show jw_W (js_S n) _ md_11 10 [some (.inr (.inr 57)), some (.inl i), some (.inl l), some (.inl j)] [.inl (σ 64 j)] σ _
      refine jw_W_if rfl (by unfold jw_rg; omega) (fun hc2 => ?_) (fun hc2 => ?_)
      · have hc2 : (σ 64 j) < 0 := hc2
        refine jw_W_n 3 (i' := 20) (ls' := [some (.inr (.inr 57)), some (.inl i), some (.inl l), some (.inl j)]) (st' := [.inl i, .inl j, .inr (.inr 57)]) rfl ?_
        refine jw_W_call (as := [.inr (.inr 57), .inl j, .inl i]) (rest := []) rfl rfl rfl rfl (Nat.le_of_ble_eq_true rfl) (.inr rfl) (jx_beats hI i0 i1 j0 (by omega)) (by omega) ?_ rfl
        rintro r1 σz (⟨rfl, hs, hbt⟩ | ⟨rfl, hs, hbt⟩)
        · rw [hs]
          show jw_W (js_S n) _ md_11 21 [some (.inr (.inr 57)), some (.inl i), some (.inl l), some (.inl j)] [.inl 1] σ _
          refine jw_W_if rfl (by unfold jw_rg; omega) (fun hc3 => ?_) (fun hc3 => ?_)
          · exact absurd hc3 (show ¬ ((1 : Int) = 0) by omega)
          · clear hc3
            refine jw_W_n 1 (i' := 23) (ls' := [some (.inr (.inr 57)), some (.inl i), some (.inl l), some (.inl j)]) (st' := [.inl 1]) rfl ?_
            refine jw_W_ir rfl ?_
            exact .inl ⟨rfl, rfl, j, j0, by omega, by omega, hbt⟩
        · rw [hs]
          show jw_W (js_S n) _ md_11 21 [some (.inr (.inr 57)), some (.inl i), some (.inl l), some (.inl j)] [.inl 0] σ _
          refine jw_W_if rfl (by unfold jw_rg; omega) (fun hc4 => ?_) (fun hc4 => ?_)
          · clear hc4
            refine jw_W_n 2 (i' := 2) (ls' := [some (.inr (.inr 57)), some (.inl i), some (.inl l), some (.inl (j + 1))]) (st' := []) rfl ?_
            refine ih (by omega) (fun hh => ?_)
            obtain ⟨c, h1, h2, h3, h4⟩ := hh
            by_cases e : c = j
            · rw [e] at h3 h4
              first | exact hbt h4 | omega
            · exact H ⟨c, h1, by omega, h3, h4⟩
          · exact absurd hc4 (show ¬ ¬ ((0 : Int) = 0) by omega)
      · have hc2 : ¬ ((σ 64 j) < 0) := hc2
        refine jw_W_n 1 (i' := 12) (ls' := [some (.inr (.inr 57)), some (.inl i), some (.inl l), some (.inl j)]) (st' := [.inr (.inr 57)]) rfl ?_
        refine jw_W_gf rfl rfl rfl ?_
        show jw_W (js_S n) _ md_11 13 [some (.inr (.inr 57)), some (.inl i), some (.inl l), some (.inl j)] [.inr (.inr 64)] σ _
        refine jw_W_n 1 (i' := 14) (ls' := [some (.inr (.inr 57)), some (.inl i), some (.inl l), some (.inl j)]) (st' := [.inl j, .inr (.inr 64)]) rfl ?_
        refine jw_W_ia rfl rfl (by omega) (by omega) (by omega) ?_
        show jw_W (js_S n) _ md_11 15 [some (.inr (.inr 57)), some (.inl i), some (.inl l), some (.inl j)] [.inl (σ 64 j)] σ _
        refine jw_W_n 1 (i' := 16) (ls' := [some (.inr (.inr 57)), some (.inl i), some (.inl l), some (.inl j)]) (st' := [.inl l, .inl (σ 64 j)]) rfl ?_
        refine jw_W_ic rfl (by unfold jw_rg; omega) (by unfold jw_rg; omega) (fun hc5 => ?_) (fun hc5 => ?_)
        · have hc5 : (σ 64 j) ≠ l := hc5
          refine jw_W_n 2 (i' := 2) (ls' := [some (.inr (.inr 57)), some (.inl i), some (.inl l), some (.inl (j + 1))]) (st' := []) rfl ?_
          refine ih (by omega) (fun hh => ?_)
          obtain ⟨c, h1, h2, h3, h4⟩ := hh
          by_cases e : c = j
          · rw [e] at h3 h4
            first | exact hbt h4 | omega
          · exact H ⟨c, h1, by omega, h3, h4⟩
        · have hc5 : (σ 64 j) = l := Classical.not_not.mp hc5
          refine jw_W_n 3 (i' := 20) (ls' := [some (.inr (.inr 57)), some (.inl i), some (.inl l), some (.inl j)]) (st' := [.inl i, .inl j, .inr (.inr 57)]) rfl ?_
          refine jw_W_call (as := [.inr (.inr 57), .inl j, .inl i]) (rest := []) rfl rfl rfl rfl (Nat.le_of_ble_eq_true rfl) (.inr rfl) (jx_beats hI i0 i1 j0 (by omega)) (by omega) ?_ rfl
          rintro r1 σz (⟨rfl, hs, hbt⟩ | ⟨rfl, hs, hbt⟩)
          · rw [hs]
            show jw_W (js_S n) _ md_11 21 [some (.inr (.inr 57)), some (.inl i), some (.inl l), some (.inl j)] [.inl 1] σ _
            refine jw_W_if rfl (by unfold jw_rg; omega) (fun hc6 => ?_) (fun hc6 => ?_)
            · exact absurd hc6 (show ¬ ((1 : Int) = 0) by omega)
            · clear hc6
              refine jw_W_n 1 (i' := 23) (ls' := [some (.inr (.inr 57)), some (.inl i), some (.inl l), some (.inl j)]) (st' := [.inl 1]) rfl ?_
              refine jw_W_ir rfl ?_
              exact .inl ⟨rfl, rfl, j, j0, by omega, by omega, hbt⟩
          · rw [hs]
            show jw_W (js_S n) _ md_11 21 [some (.inr (.inr 57)), some (.inl i), some (.inl l), some (.inl j)] [.inl 0] σ _
            refine jw_W_if rfl (by unfold jw_rg; omega) (fun hc7 => ?_) (fun hc7 => ?_)
            · clear hc7
              refine jw_W_n 2 (i' := 2) (ls' := [some (.inr (.inr 57)), some (.inl i), some (.inl l), some (.inl (j + 1))]) (st' := []) rfl ?_
              refine ih (by omega) (fun hh => ?_)
              obtain ⟨c, h1, h2, h3, h4⟩ := hh
              by_cases e : c = j
              · rw [e] at h3 h4
                first | exact hbt h4 | omega
              · exact H ⟨c, h1, by omega, h3, h4⟩
            · exact absurd hc7 (show ¬ ¬ ((0 : Int) = 0) by omega)
theorem jx_isBeaten {n : Nat} {σ : jw_H} {o : Nat} {C : List (ge_R × Int)} (hI : jx_I0 n σ o C) {i l : Int} (i0 : 0 ≤ i) (i1 : i < σ 103 56) (hl : jw_rg l) (hL : ∀ c, 0 ≤ c → c < σ 103 56 → jw_rg (σ 64 c)) : jw_T (js_S n) 4 11 [.inr (.inr 57), .inl i, .inl l] σ (fun r σ' => (r = some (.inl 1) ∧ σ' = σ ∧ (∃ c, 0 ≤ c ∧ c < σ 103 56 ∧ (σ 64 c < 0 ∨ σ 64 c = l) ∧ ge_bt (jm_F σ) (jm_ct σ i) (jm_ct σ c))) ∨ (r = some (.inl 0) ∧ σ' = σ ∧ ¬ (∃ c, 0 ≤ c ∧ c < σ 103 56 ∧ (σ 64 c < 0 ∨ σ 64 c = l) ∧ ge_bt (jm_F σ) (jm_ct σ i) (jm_ct σ c)))) := by
  refine jw_T_of (D := 3) (M := mm_11) rfl (Nat.le_of_ble_eq_true rfl) (ls0 := [some (.inr (.inr 57)), some (.inl i), some (.inl l), none]) rfl ?_ (by rintro _ _ (⟨rfl, -⟩ | ⟨rfl, -⟩) <;> rfl)
  obtain ⟨hto, hfo, hp, hP, e0, e1, e2, hPm, hcb, c0, p0, -⟩ := jx_I0_x hI
  have ho := hp.1
  have hq := hP.1
  have hw := hP.2.1
  have hq2 := hP.2.2.1
  have hcn := hcb.1
  refine jw_W_n 2 (i' := 2) (ls' := [some (.inr (.inr 57)), some (.inl i), some (.inl l), some (.inl 0)]) (st' := []) rfl ?_
  exact jx_isBeaten_loop hI i0 i1 hl hL (σ 103 56).toNat (j := 0) (by omega) (by omega) (fun ⟨c, h1, h2, _⟩ => by omega)

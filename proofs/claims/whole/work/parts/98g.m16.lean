/-! ===== the reference's body: cut to where each wish is no less ===== -/
def jm_cb (σ0 : jw_H) (T : Int) (p : ge_R) (σ : jw_H) (k : Int) : Prop := jm_fr2 σ0 σ ∧ ∃ L, jm_body σ (jm_wb σ0 T p k.toNat) L
theorem jm_TT {T : Int} (T0 : 0 < T) (T1 : T ≤ 262440) : 26244 * T * (1458 * T) ≤ 4600000000000000000 := by
  have h := Int.mul_le_mul T1 T1 (Int.le_of_lt T0) (by omega : (0 : Int) ≤ 262440)
  have e : 26244 * T * (1458 * T) = 38263752 * (T * T) := by grind
  omega
theorem jm_W_fr {σ0 σ : jw_H} (a : jm_fr2 σ0 σ) (k : Int) : jm_W σ k = jm_W σ0 k := by
  simp only [jm_W, a.1 104 (by omega) (by omega)]
theorem jm_no_bd {σ : jw_H} {T k : Int} {p v : ge_R} (hP : jm_Pb σ) (T0 : 0 < T) (k0 : 0 ≤ k) (k1 : k < σ 103 4) (hp : jm_in4 (9 * T) p) (hw : p.2.2.2 = 1) (hv : jm_in4 (1458 * T) v) (hw2 : v.2.2.2 ≤ 162) : -(26244 * T) ≤ ge_s (ge_no (jm_W σ k) p) v ∧ ge_s (ge_no (jm_W σ k) p) v ≤ 26244 * T := by
  rw [ge_no_s _ hw, hw, Int.mul_one]
  have h1 := jm_f_bd (jm_W_sm hP k0 k1) hp
  have h2 := jm_f_bd (jm_W_sm hP k0 k1) hv
  have w0 := hv.2.2.2.1
  have h3 := Int.mul_le_mul_of_nonneg_right h1.2 (Int.le_of_lt w0)
  have h4 := Int.mul_le_mul_of_nonneg_right h1.1 (Int.le_of_lt w0)
  have h5 := Int.mul_le_mul_of_nonneg_left hw2 (show 0 ≤ 9 * (9 * T) by omega)
  have e : -(9 * (9 * T)) * v.2.2.2 = -(9 * (9 * T) * v.2.2.2) := Int.neg_mul _ _
  omega
theorem jm_cutsW {n : Nat} {σ0 σ : jw_H} {T k x y z : Int} (hP : jm_Pb σ0) (T0 : 0 < T) (T1 : T ≤ 262440) (H : jm_cb σ0 T (x, y, z, 1) σ k) (k0 : 0 ≤ k) (k1 : k < σ0 103 4) (hx : 0 ≤ x ∧ x ≤ 9 * T) (hy : 0 ≤ y ∧ y ≤ 9 * T) (hz : 0 ≤ z ∧ z ≤ 9 * T) : jw_T (js_S n) 4 240 [.inr (.inr 103), .inl (12 + k), .inr (.inl (-(σ 104 (3 * k) * x + σ 104 (3 * k + 1) * y + σ 104 (3 * k + 2) * z)))] (jm_ln σ (12 + k) (-σ 104 (3 * k)) (-σ 104 (3 * k + 1)) (-σ 104 (3 * k + 2))) (fun r σ2 => r = none ∧ jm_cb σ0 T (x, y, z, 1) σ2 (k + 1)) := by
  obtain ⟨fr, L, hL⟩ := H
  have hPs := jm_fr2_Pb fr hP
  have hw4 := hP.2.1
  have ek : ((k.toNat : Nat) : Int) = k := by omega
  have eb : (12 + k).toNat = 12 + k.toNat := by omega
  have e3 := fr.2 3 (by omega)
  have e4 := fr.2 4 (by omega)
  have sm := jm_W_sm hPs k0 (by rw [e4]; exact k1)
  simp only [jm_W] at sm
  have fr1 := jm_fr2_ln σ (12 + k) (-σ 104 (3 * k)) (-σ 104 (3 * k + 1)) (-σ 104 (3 * k + 2))
  have hf : ∀ r, ((12 + k).toNat, r) ∉ jm_wb σ0 T (x, y, z, 1) k.toNat := by
    rw [eb]
    exact jm_wb_free hP k.toNat
  have hH := jm_body_ln (a := -σ 104 (3 * k)) (b := -σ 104 (3 * k + 1)) (c := -σ 104 (3 * k + 2)) hL (show 0 ≤ 12 + k by omega) hf (by omega) (by omega) (by omega)
  have erw : jm_rw (jm_ln σ (12 + k) (-σ 104 (3 * k)) (-σ 104 (3 * k + 1)) (-σ 104 (3 * k + 2))) (12 + k) (-(σ 104 (3 * k) * x + σ 104 (3 * k + 1) * y + σ 104 (3 * k + 2) * z)) = ge_no (jm_W σ0 k) (x, y, z, 1) := by
    have e := jm_ln_N σ (12 + k) (-σ 104 (3 * k)) (-σ 104 (3 * k + 1)) (-σ 104 (3 * k + 2)) (12 + k)
    rw [if_pos rfl] at e
    simp only [jm_N, Prod.mk.injEq] at e
    rw [← jm_W_fr fr]
    simp only [jm_rw, ge_no, jm_W, ge_f, e.1, e.2.1, e.2.2]
  have f3 : jm_ln σ (12 + k) (-σ 104 (3 * k)) (-σ 104 (3 * k + 1)) (-σ 104 (3 * k + 2)) 103 3 = σ0 103 3 := (fr1.2 3 (by omega)).trans e3
  have fr2 := jm_fr2_tr fr fr1
  generalize jm_ln σ (12 + k) (-σ 104 (3 * k)) (-σ 104 (3 * k + 1)) (-σ 104 (3 * k + 2)) = σ1 at *
  have hp4 : jm_in4 (9 * T) (x, y, z, 1) := ⟨hx, hy, hz, by simp only; omega⟩
  have hlen := jm_wb_len (T := T) (p := (x, y, z, 1)) hP k.toNat
  have hflat : (σ0 103 3 ≤ 2 → (ge_no (jm_W σ0 k) (x, y, z, 1)).2.2.1 = 0) ∧ (σ0 103 3 ≤ 1 → (ge_no (jm_W σ0 k) (x, y, z, 1)).2.1 = 0) := by
    have h1 := (hP.2.2.2.2.2 k k0 k1 2 (by omega) (by omega)).2.2
    have h2 := (hP.2.2.2.2.2 k k0 k1 1 (by omega) (by omega)).2.2
    simp only [ge_no, jm_W]
    refine ⟨fun h => ?_, fun h => ?_⟩
    · rw [h1 h]
      rfl
    · rw [h2 h]
      rfl
  have hTT := jm_TT T0 T1
  have ewb : jm_wb σ0 T (x, y, z, 1) (k.toNat + 1) = (12 + k.toNat, ge_no (jm_W σ0 k) (x, y, z, 1)) :: jm_wb σ0 T (x, y, z, 1) k.toNat := by
    show (_, ge_no (jm_W σ0 ((k.toNat : Nat) : Int)) _) :: _ = _
    rw [ek]
  refine jw_T_mono (jm_cut_body (S := 26244 * T) (X := 1458 * T) (b := 12 + k) (u := -(σ 104 (3 * k) * x + σ 104 (3 * k + 1) * y + σ 104 (3 * k + 2) * z)) (by rw [f3]; exact hP.1.1) (by rw [f3]; exact hP.1.2) hH (by omega) (by omega) hf (by rw [erw, f3]; exact hflat) (by rw [f3]; omega) (by omega) (by omega) (by omega) hTT (fun v hv hg => ?_) (fun v hv hg => ?_)) (Nat.le_refl _) ?_
  · rw [f3] at hv
    obtain ⟨i1, i2⟩ := jm_V_bdT (k := k.toNat) hP T0 (by omega) hv hg
    rw [erw]
    exact ⟨i1, jm_no_bd hP T0 k0 k1 hp4 rfl i1 i2⟩
  · rw [erw, f3] at hv
    exact (jm_V_bdT (k := k.toNat + 1) (p := (x, y, z, 1)) hP T0 (by omega) (by rw [ewb]; exact hv) hg).1
  · rintro r σ2 ⟨rfl, hfr, L', hL'⟩
    rw [erw, eb] at hL'
    refine ⟨rfl, jm_fr2_tr fr2 (jm_fr_2 hfr), L', ?_⟩
    rw [show (k + 1).toNat = k.toNat + 1 by omega, ewb]
    exact hL'
theorem jm_cb_loop {n : Nat} {σ0 : jw_H} {D : Nat} {T x y z : Int} {Q : Option jw_V → jw_H → Prop} (hD : 4 ≤ D) (hP : jm_Pb σ0) (T0 : 0 < T) (T1 : T ≤ 262440) (hx : 0 ≤ x ∧ x ≤ 9 * T) (hy : 0 ≤ y ∧ y ≤ 9 * T) (hz : 0 ≤ z ∧ z ≤ 9 * T) (hQ : ∀ σ', jm_cb σ0 T (x, y, z, 1) σ' (σ0 103 4) → Q none σ') : ∀ (f : Nat) {σ : jw_H} {k : Int}, 0 ≤ k → k + f = σ0 103 4 → jm_cb σ0 T (x, y, z, 1) σ k → jw_W (js_S n) D md_249 5 [some (.inr (.inr 103)), some (.inr (.inl x)), none, some (.inr (.inl y)), none, some (.inr (.inl z)), none, some (.inr (.inl T)), none, some (.inl k)] [] σ Q
  | f, σ, k, k0, hk, hI => by
    have ih : ∀ {σ' : jw_H}, k < σ0 103 4 → jm_cb σ0 T (x, y, z, 1) σ' (k + 1) → jw_W (js_S n) D md_249 5 [some (.inr (.inr 103)), some (.inr (.inl x)), none, some (.inr (.inl y)), none, some (.inr (.inl z)), none, some (.inr (.inl T)), none, some (.inl (k + 1))] [] σ' Q := by
      intro σ' h1 h2
      match f, hk with
      | 0, hk => omega
      | f + 1, hk => exact jm_cb_loop hD hP T0 T1 hx hy hz hQ f (by omega) (by omega) h2
    have hPs := jm_fr2_Pb hI.1 hP
    have hw4 := hP.2.1
    have e4 : σ 103 4 = σ0 103 4 := hI.1.2 4 (by omega)
    refine jw_W_n 2 (i' := 7) (ls' := [some (.inr (.inr 103)), some (.inr (.inl x)), none, some (.inr (.inl y)), none, some (.inr (.inl z)), none, some (.inr (.inl T)), none, some (.inl k)]) (st' := [.inr (.inr 103), .inl k]) rfl ?_
    refine jw_W_gf rfl rfl rfl ?_
    show jw_W (js_S n) _ md_249 8 [some (.inr (.inr 103)), some (.inr (.inl x)), none, some (.inr (.inl y)), none, some (.inr (.inl z)), none, some (.inr (.inl T)), none, some (.inl k)] [.inl (σ 103 4), .inl k] σ _
    rw [e4]
    refine jw_W_ic rfl (by unfold jw_rg; omega) (by unfold jw_rg; omega) (fun hc1 => ?_) (fun hc1 => ?_)
    · have hc1 : k ≥ (σ0 103 4) := hc1
      refine jw_W_re rfl ?_
      have hkl : k = σ0 103 4 := by omega
      subst hkl
      exact hQ σ hI
    · have hc1 : ¬ (k ≥ (σ0 103 4)) := hc1
      refine jw_W_n 5 (i' := 14) (ls' := [some (.inr (.inr 103)), some (.inr (.inl x)), none, some (.inr (.inl y)), none, some (.inr (.inl z)), none, some (.inr (.inl T)), none, some (.inl k)]) (st' := [.inr (.inr 103), .inl (12 + k), .inr (.inr 103)]) rfl ?_
      refine jw_W_gf rfl rfl rfl ?_
      show jw_W (js_S n) _ md_249 15 [some (.inr (.inr 103)), some (.inr (.inl x)), none, some (.inr (.inl y)), none, some (.inr (.inl z)), none, some (.inr (.inl T)), none, some (.inl k)] [.inr (.inr 104), .inl (12 + k), .inr (.inr 103)] σ _
      refine jw_W_n 3 (i' := 18) (ls' := [some (.inr (.inr 103)), some (.inr (.inl x)), none, some (.inr (.inl y)), none, some (.inr (.inl z)), none, some (.inr (.inl T)), none, some (.inl k)]) (st' := [.inl (3 * k), .inr (.inr 104), .inl (12 + k), .inr (.inr 103)]) rfl ?_
      refine jw_W_ia rfl rfl (by omega) (by omega) (by omega) ?_
      show jw_W (js_S n) _ md_249 19 [some (.inr (.inr 103)), some (.inr (.inl x)), none, some (.inr (.inl y)), none, some (.inr (.inl z)), none, some (.inr (.inl T)), none, some (.inl k)] [.inl (σ 104 (3 * k)), .inl (12 + k), .inr (.inr 103)] σ _
      refine jw_W_n 2 (i' := 21) (ls' := [some (.inr (.inr 103)), some (.inr (.inl x)), none, some (.inr (.inl y)), none, some (.inr (.inl z)), none, some (.inr (.inl T)), none, some (.inl k)]) (st' := [.inr (.inr 103), .inl ((-(σ 104 (3 * k)))), .inl (12 + k), .inr (.inr 103)]) rfl ?_
      refine jw_W_gf rfl rfl rfl ?_
      show jw_W (js_S n) _ md_249 22 [some (.inr (.inr 103)), some (.inr (.inl x)), none, some (.inr (.inl y)), none, some (.inr (.inl z)), none, some (.inr (.inl T)), none, some (.inl k)] [.inr (.inr 104), .inl ((-(σ 104 (3 * k)))), .inl (12 + k), .inr (.inr 103)] σ _
      refine jw_W_n 5 (i' := 27) (ls' := [some (.inr (.inr 103)), some (.inr (.inl x)), none, some (.inr (.inl y)), none, some (.inr (.inl z)), none, some (.inr (.inl T)), none, some (.inl k)]) (st' := [.inl ((3 * k) + 1), .inr (.inr 104), .inl ((-(σ 104 (3 * k)))), .inl (12 + k), .inr (.inr 103)]) rfl ?_
      refine jw_W_ia rfl rfl (by omega) (by omega) (by omega) ?_
      show jw_W (js_S n) _ md_249 28 [some (.inr (.inr 103)), some (.inr (.inl x)), none, some (.inr (.inl y)), none, some (.inr (.inl z)), none, some (.inr (.inl T)), none, some (.inl k)] [.inl (σ 104 ((3 * k) + 1)), .inl ((-(σ 104 (3 * k)))), .inl (12 + k), .inr (.inr 103)] σ _
      refine jw_W_n 2 (i' := 30) (ls' := [some (.inr (.inr 103)), some (.inr (.inl x)), none, some (.inr (.inl y)), none, some (.inr (.inl z)), none, some (.inr (.inl T)), none, some (.inl k)]) (st' := [.inr (.inr 103), .inl ((-(σ 104 ((3 * k) + 1)))), .inl ((-(σ 104 (3 * k)))), .inl (12 + k), .inr (.inr 103)]) rfl ?_
      refine jw_W_gf rfl rfl rfl ?_
      show jw_W (js_S n) _ md_249 31 [some (.inr (.inr 103)), some (.inr (.inl x)), none, some (.inr (.inl y)), none, some (.inr (.inl z)), none, some (.inr (.inl T)), none, some (.inl k)] [.inr (.inr 104), .inl ((-(σ 104 ((3 * k) + 1)))), .inl ((-(σ 104 (3 * k)))), .inl (12 + k), .inr (.inr 103)] σ _
      refine jw_W_n 5 (i' := 36) (ls' := [some (.inr (.inr 103)), some (.inr (.inl x)), none, some (.inr (.inl y)), none, some (.inr (.inl z)), none, some (.inr (.inl T)), none, some (.inl k)]) (st' := [.inl ((3 * k) + 2), .inr (.inr 104), .inl ((-(σ 104 ((3 * k) + 1)))), .inl ((-(σ 104 (3 * k)))), .inl (12 + k), .inr (.inr 103)]) rfl ?_
      refine jw_W_ia rfl rfl (by omega) (by omega) (by omega) ?_
      show jw_W (js_S n) _ md_249 37 [some (.inr (.inr 103)), some (.inr (.inl x)), none, some (.inr (.inl y)), none, some (.inr (.inl z)), none, some (.inr (.inl T)), none, some (.inl k)] [.inl (σ 104 ((3 * k) + 2)), .inl ((-(σ 104 ((3 * k) + 1)))), .inl ((-(σ 104 (3 * k)))), .inl (12 + k), .inr (.inr 103)] σ _
      refine jw_W_n 1 (i' := 38) (ls' := [some (.inr (.inr 103)), some (.inr (.inl x)), none, some (.inr (.inl y)), none, some (.inr (.inl z)), none, some (.inr (.inl T)), none, some (.inl k)]) (st' := [.inl ((-(σ 104 ((3 * k) + 2)))), .inl ((-(σ 104 ((3 * k) + 1)))), .inl ((-(σ 104 (3 * k)))), .inl (12 + k), .inr (.inr 103)]) rfl ?_
      refine jw_W_call (as := [.inr (.inr 103), .inl (12 + k), .inl ((-(σ 104 (3 * k)))), .inl ((-(σ 104 ((3 * k) + 1)))), .inl ((-(σ 104 ((3 * k) + 2))))]) (rest := []) rfl rfl rfl rfl (Nat.le_of_ble_eq_true rfl) (.inr rfl) (jm_laysNormal (by omega) (by omega)) (by omega) ?_ rfl
      rintro r1 σ1 ⟨rfl, rfl⟩
      show jw_W (js_S n) _ md_249 39 [some (.inr (.inr 103)), some (.inr (.inl x)), none, some (.inr (.inl y)), none, some (.inr (.inl z)), none, some (.inr (.inl T)), none, some (.inl k)] [] ((jw_up (jw_up (jw_up σ 131 (3 * (12 + k)) (-(σ 104 (3 * k)))) 131 (3 * (12 + k) + 1) (-(σ 104 ((3 * k) + 1)))) 131 (3 * (12 + k) + 2) (-(σ 104 ((3 * k) + 2))))) _
      refine jw_W_n 9 (i' := 48) (ls' := [some (.inr (.inr 103)), some (.inr (.inl x)), none, some (.inr (.inl y)), none, some (.inr (.inl z)), none, some (.inr (.inl T)), none, some (.inl k)]) (st' := [.inr (.inl z), .inr (.inl y), .inr (.inl x), .inl k, .inr (.inr 103), .inl (12 + k), .inr (.inr 103)]) rfl ?_
      refine jw_W_call (as := [.inr (.inr 103), .inl k, .inr (.inl x), .inr (.inl y), .inr (.inl z)]) (rest := [.inl (12 + k), .inr (.inr 103)]) rfl rfl rfl rfl (Nat.le_of_ble_eq_true rfl) (.inr rfl) (jm_wished (σ := jm_ln σ (12 + k) (-σ 104 (3 * k)) (-σ 104 (3 * k + 1)) (-σ 104 (3 * k + 2))) (jm_fr2_Pb (jm_fr2_ln σ _ _ _ _) hPs) k0 (by rw [(jm_fr2_ln σ _ _ _ _).2 4 (by omega)]; omega)) (by omega) ?_ rfl
      rintro r1 σ1 ⟨rfl, hs⟩
      rw [hs, (jm_fr2_ln σ _ _ _ _).1 104 (by omega) (by omega)]
      show jw_W (js_S n) _ md_249 49 [some (.inr (.inr 103)), some (.inr (.inl x)), none, some (.inr (.inl y)), none, some (.inr (.inl z)), none, some (.inr (.inl T)), none, some (.inl k)] [.inr (.inl (σ 104 (3 * k) * x + σ 104 (3 * k + 1) * y + σ 104 (3 * k + 2) * z)), .inl (12 + k), .inr (.inr 103)] ((jw_up (jw_up (jw_up σ 131 (3 * (12 + k)) (-(σ 104 (3 * k)))) 131 (3 * (12 + k) + 1) (-(σ 104 ((3 * k) + 1)))) 131 (3 * (12 + k) + 2) (-(σ 104 ((3 * k) + 2))))) _
      refine jw_W_n 1 (i' := 50) (ls' := [some (.inr (.inr 103)), some (.inr (.inl x)), none, some (.inr (.inl y)), none, some (.inr (.inl z)), none, some (.inr (.inl T)), none, some (.inl k)]) (st' := [.inr (.inl ((-(σ 104 (3 * k) * x + σ 104 (3 * k + 1) * y + σ 104 (3 * k + 2) * z)))), .inl (12 + k), .inr (.inr 103)]) rfl ?_
      refine jw_W_call (as := [.inr (.inr 103), .inl (12 + k), .inr (.inl ((-(σ 104 (3 * k) * x + σ 104 (3 * k + 1) * y + σ 104 (3 * k + 2) * z))))]) (rest := []) rfl rfl rfl rfl (Nat.le_of_ble_eq_true rfl) (.inr rfl) (jm_cutsW hP T0 T1 hI k0 (by omega) hx hy hz) (by omega) ?_ rfl
      rintro r1 σ1 ⟨rfl, hI1⟩
      show jw_W (js_S n) _ md_249 51 [some (.inr (.inr 103)), some (.inr (.inl x)), none, some (.inr (.inl y)), none, some (.inr (.inl z)), none, some (.inr (.inl T)), none, some (.inl k)] [] σ1 _
      refine jw_W_n 2 (i' := 5) (ls' := [some (.inr (.inr 103)), some (.inr (.inl x)), none, some (.inr (.inl y)), none, some (.inr (.inl z)), none, some (.inr (.inl T)), none, some (.inl (k + 1))]) (st' := []) rfl ?_
      exact ih (by omega) hI1
theorem jm_kn_bd {σ : jw_H} {C : List (ge_R × Int)} (hP : jm_Pb σ) (hK : jm_kn σ C) (x : ge_R × Int) (hx : x ∈ C) : jm_in4 1458 x.1 ∧ x.1.2.2.2 ≤ 162 ∧ x.1.1 ≤ 9 * x.1.2.2.2 ∧ x.1.2.1 ≤ 9 * x.1.2.2.2 ∧ x.1.2.2.1 ≤ 9 * x.1.2.2.2 :=
  jm_V_bd hP (jm_bk_bnd (wo := -1) (mo := -1) hP (k := (σ 103 5).toNat) (by have := hP.2.2.1; omega)) (hK.2.1.1 x hx).1 (hK.2.1.1 x hx).2.1
theorem jm_cutsBelow {n : Nat} {σ : jw_H} {T x y z : Int} {C : List (ge_R × Int)} (hP : jm_Pb σ) (hN : jm_Ns σ) (hK : jm_kn σ C) (T0 : 0 < T) (T1 : T ≤ 262440) (hx : 0 ≤ x ∧ x ≤ 9 * T) (hy : 0 ≤ y ∧ y ≤ 9 * T) (hz : 0 ≤ z ∧ z ≤ 9 * T) : jw_T (js_S n) 5 249 [.inr (.inr 103), .inr (.inl x), .inr (.inl y), .inr (.inl z), .inr (.inl T)] σ (fun r σ' => r = none ∧ jm_cb σ T (x, y, z, 1) σ' (σ 103 4)) := by
  refine jw_T_of (D := 4) (M := mm_249) rfl (Nat.le_of_ble_eq_true rfl) (ls0 := [some (.inr (.inr 103)), some (.inr (.inl x)), none, some (.inr (.inl y)), none, some (.inr (.inl z)), none, some (.inr (.inl T)), none, none]) rfl ?_ (by rintro _ _ ⟨rfl, -⟩; rfl)
  refine jw_W_n 2 (i' := 2) (ls' := [some (.inr (.inr 103)), some (.inr (.inl x)), none, some (.inr (.inl y)), none, some (.inr (.inl z)), none, some (.inr (.inl T)), none, none]) (st' := [.inr (.inl T), .inr (.inr 103)]) rfl ?_
  refine jw_W_call (as := [.inr (.inr 103), .inr (.inl T)]) (rest := []) rfl rfl rfl rfl (Nat.le_of_ble_eq_true rfl) (.inr rfl) (jm_laysCorners (X := 1458) hP hN hK.1 (by have := jm_kn_len hP hK.2.1; omega) T0 (fun x hx => (jm_kn_bd hP hK x hx).1) (by omega) (by omega)) (by omega) ?_ rfl
  rintro r1 σ1 ⟨rfl, σ2, hA1, hA2⟩
  have hI := jm_lc_body hP hK T0 hA1 hA2
  show jw_W (js_S n) _ md_249 3 [some (.inr (.inr 103)), some (.inr (.inl x)), none, some (.inr (.inl y)), none, some (.inr (.inl z)), none, some (.inr (.inl T)), none, none] [] σ1 _
  refine jw_W_n 2 (i' := 5) (ls' := [some (.inr (.inr 103)), some (.inr (.inl x)), none, some (.inr (.inl y)), none, some (.inr (.inl z)), none, some (.inr (.inl T)), none, some (.inl 0)]) (st' := []) rfl ?_
  exact jm_cb_loop (D := 4) (by omega) hP T0 T1 hx hy hz (fun σ' h => ⟨rfl, h⟩) (σ 103 4).toNat (k := 0) (by omega) (by have := hP.2.1; omega) ⟨hI.1, _, hI.2⟩

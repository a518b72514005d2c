/-! ===== turn: the class: the loops and the answer ===== -/
def jn_cw (σ : jw_H) (L : List (Int × Int)) (i j : Int) : Prop := ∀ a b, 0 ≤ a → a < b → b < σ 103 56 → (a < i ∨ (a = i ∧ b < j)) → jn_cv σ L a b
theorem jn_cv_in {σ : jw_H} {L L' : List (Int × Int)} {a b : Int} (h : ∀ y ∈ L, y ∈ L') (hc : jn_cv σ L a b) : jn_cv σ L' a b := fun h1 h2 => h _ (hc h1 h2)
theorem jn_cw_s {σ : jw_H} {L L' : List (Int × Int)} {i j : Int} (h : ∀ y ∈ L, y ∈ L') (hw : jn_cw σ L i j) (hc : jn_cv σ L' i j) : jn_cw σ L' i (j + 1) := by
  intro a b a0 ab b1 hab
  by_cases e : a = i ∧ b = j
  · rw [e.1, e.2]
    exact hc
  · exact jn_cv_in h (hw a b a0 ab b1 (by omega))
theorem jn_cw_row {σ : jw_H} {L : List (Int × Int)} {i : Int} (hw : jn_cw σ L i (σ 103 56)) : jn_cw σ L (i + 1) (i + 1 + 1) := fun a b a0 ab b1 hab => hw a b a0 ab b1 (by omega)
/-- the share of a pair -/
def jn_sh (σ : jw_H) (i j : Int) : Int × Int := jx_fr (jm_mw σ 1 j i) (jm_mw σ 1 j i - jm_mw σ 0 j i)
def jn_op (σ : jw_H) (i j : Int) : Prop := (0 < jm_mw σ 0 j i ∧ jm_mw σ 1 j i < 0) ∨ (jm_mw σ 0 j i < 0 ∧ 0 < jm_mw σ 1 j i)
theorem jn_sh_ok {σ : jw_H} (hP : jm_Pb σ) (hcb : jm_cbd σ) (h2 : σ 103 4 = 2) {i j : Int} (i0 : 0 ≤ i) (i1 : i < σ 103 56) (j0 : 0 ≤ j) (j1 : j < σ 103 56) (hs : jn_op σ i j) : jn_sm (jn_sh σ i j) ∧ (jn_sh σ i j).1 < (jn_sh σ i j).2 ∧ jx_fr (jn_sh σ i j).1 (jn_sh σ i j).2 = jn_sh σ i j ∧ (jn_sh σ i j).1 * jm_mw σ 0 i j + ((jn_sh σ i j).2 - (jn_sh σ i j).1) * jm_mw σ 1 i j = 0 := by
  have b0 := jm_mw_bd hP hcb (w := 0) (i := j) (j := i) (by omega) (by omega) j0 j1 i0 i1
  have b1 := jm_mw_bd hP hcb (w := 1) (i := j) (j := i) (by omega) (by omega) j0 j1 i0 i1
  obtain ⟨g1, g2, g3⟩ := jn_share b0 b1 hs
  have hm := jn_mid g1.1 g2 hs
  unfold jn_sh
  refine ⟨⟨by omega, by omega⟩, hm.2, g3, ?_⟩
  rw [jn_mw_ng σ 0 j i, jn_mw_ng σ 1 j i, Int.mul_neg, Int.mul_neg]
  omega
theorem jn_tq_add {σ : jw_H} (hP : jm_Pb σ) (hcb : jm_cbd σ) (h2 : σ 103 4 = 2) {L L' : List (Int × Int)} {i j : Int} (i0 : 0 ≤ i) (i1 : i < σ 103 56) (j0 : 0 ≤ j) (j1 : j < σ 103 56) (hs : jn_op σ i j) (hb : jn_inI (jm_mw σ 0 i) (jm_mw σ 1 i) (σ 103 56).toNat (jn_sh σ i j).1 (jn_sh σ i j).2) (h : jn_tq σ L) (h1 : L'.Pairwise jn_lt) (hm : ∀ y, y ∈ L' ↔ y ∈ L ∨ y = jn_sh σ i j) : jn_tq σ L' := by
  obtain ⟨g1, g2, g3, g4⟩ := jn_sh_ok hP hcb h2 i0 i1 j0 j1 hs
  refine ⟨h1, fun y hy => ?_⟩
  rcases (hm y).mp hy with hh | hh
  · exact h.2 y hh
  · rw [hh]
    refine ⟨g1, g1.2.1, g3, i, ⟨i0, i1⟩, hb, j, ⟨j0, by omega⟩, g4, ?_⟩
    unfold jn_op at hs
    rw [jn_mw_ng σ 0 i j, jn_mw_ng σ 1 i j] at hs
    omega
theorem jn_f95_y {σ0 σ : jw_H} (h : jn_f95 σ0 σ) : jx_fy σ0 σ := ⟨fun c _ hc => h.1 c (by omega) (by omega) (by omega), fun j _ => by rw [h.1 13 (by omega) (by omega) (by omega)]⟩
theorem jx_ft_j {n : Nat} {σ0 : jw_H} {D : Nat} (hD : 3 ≤ D) {o : Nat} {C : List (ge_R × Int)} (hK0 : jx_K n o C σ0) (h2 : σ0 103 4 = 2) {i : Int} (i0 : 0 ≤ i) (i1 : i < σ0 103 56) {Q : Option jw_V → jw_H → Prop} (hQ : ∀ {σ : jw_H} {L : List (Int × Int)} {v5 v7 : Option jw_V}, jx_fy σ0 σ → jn_tw 95 96 92 2 σ L → jn_tq σ0 L → jn_cw σ0 L i (σ0 103 56) → jw_W (js_S n) D md_91 75 [some (.inr (.inr 92)), some (.inr (.inr 57)), some (.inr (.inr (o + 1))), some (.inl i), some (.inl (σ0 103 56)), v5, none, v7, none] [] σ Q) : ∀ (f : Nat) {σ : jw_H} {j : Int} {L : List (Int × Int)} {v5 v7 : Option jw_V}, i < j → j + f = σ0 103 56 → jx_fy σ0 σ → jn_tw 95 96 92 2 σ L → jn_tq σ0 L → jn_cw σ0 L i j → jw_W (js_S n) D md_91 17 [some (.inr (.inr 92)), some (.inr (.inr 57)), some (.inr (.inr (o + 1))), some (.inl i), some (.inl j), v5, none, v7, none] [] σ Q
  | f, σ, j, L, v5, v7, ij, hk, hfy, hL, htq, hcw => by
    have ih : ∀ {σ' : jw_H} {L' : List (Int × Int)} {v5' v7' : Option jw_V}, j < σ0 103 56 → jx_fy σ0 σ' → jn_tw 95 96 92 2 σ' L' → jn_tq σ0 L' → jn_cw σ0 L' i (j + 1) → jw_W (js_S n) D md_91 17 [some (.inr (.inr 92)), some (.inr (.inr 57)), some (.inr (.inr (o + 1))), some (.inl i), some (.inl (j + 1)), v5', none, v7', none] [] σ' Q := by
      intro σ' L' v5' v7' h1 h3 h4 h5 h6
      match f, hk with
      | 0, hk => omega
      | f + 1, hk => exact jx_ft_j hD hK0 h2 i0 i1 hQ f (by omega) (by omega) h3 h4 h5 h6
    have j0 : 0 ≤ j := by omega
    have hI0 := jx_I0_x hK0.1
    have hP0 := hI0.2.2.2.2.2.2.2.1
    have hcb := hI0.2.2.2.2.2.2.2.2.1
    have hcn := hcb.1
    have hp := hI0.2.2.1
    have hK := jx_K_y hfy hK0
    have hI := hK.1
    have hIx := jx_I0_x hI
    have hfo := hIx.2.1
    have hto := hIx.1
    have hme := jx_fx_me (jx_fy_x hfy)
    have e56 : σ 57 0 = σ0 103 56 := by rw [hIx.2.2.2.2.2.2.2.2.2.1, hme 103 (by omega)]
    have e561 : σ 103 56 = σ0 103 56 := by rw [hme 103 (by omega)]
    have e4 : σ 103 4 = 2 := by rw [hme 103 (by omega)]; exact h2
    refine jw_W_n 2 (i' := 19) (ls' := [some (.inr (.inr 92)), some (.inr (.inr 57)), some (.inr (.inr (o + 1))), some (.inl i), some (.inl j), v5, none, v7, none]) (st' := [.inr (.inr 57), .inl j]) rfl ?_
    refine jw_W_gf rfl rfl rfl ?_
    show jw_W (js_S n) _ md_91 20 [some (.inr (.inr 92)), some (.inr (.inr 57)), some (.inr (.inr (o + 1))), some (.inl i), some (.inl j), v5, none, v7, none] [.inl (σ 57 0), .inl j] σ _
    refine jw_W_ic rfl (by unfold jw_rg; omega) (by unfold jw_rg; omega) (fun hc1 => ?_) (fun hc1 => ?_)
    · have hc1 : j ≥ (σ 57 0) := hc1
      have hkl : j = σ0 103 56 := by omega
      subst hkl
      exact hQ hfy hL htq hcw
    · have hc1 : ¬ (j ≥ (σ 57 0)) := hc1
      refine jw_W_n 1 (i' := 22) (ls' := [some (.inr (.inr 92)), some (.inr (.inr 57)), some (.inr (.inr (o + 1))), some (.inl i), some (.inl j), v5, none, v7, none]) (st' := [.inr (.inr 57)]) rfl ?_
      refine jw_W_gf rfl rfl rfl ?_
      show jw_W (js_S n) _ md_91 23 [some (.inr (.inr 92)), some (.inr (.inr 57)), some (.inr (.inr (o + 1))), some (.inl i), some (.inl j), v5, none, v7, none] [.inr (.inr 58)] σ _
      refine jw_W_n 4 (i' := 27) (ls' := [some (.inr (.inr 92)), some (.inr (.inr 57)), some (.inr (.inr (o + 1))), some (.inl i), some (.inl j), v5, none, v7, none]) (st' := [.inl 0, .inr (.inr (o + 1)), .inl j, .inl i, .inr (.inr 58)]) rfl ?_
      refine jw_W_call (as := [.inr (.inr 58), .inl i, .inl j, .inr (.inr (o + 1)), .inl 0]) (rest := []) rfl rfl rfl rfl (Nat.le_of_ble_eq_true rfl) (.inr rfl) (jx_chM hI (i := j) (j := i) (w := 0) j0 (by omega) i0 (by omega) (by omega) (by omega)) (by omega) ?_ rfl
      rintro r1 σz ⟨rfl, hs⟩
      rw [hs, jm_mw_me hme]
      have hb0 := jm_mw_bd hP0 hcb (w := 0) (i := j) (j := i) (by omega) (by omega) j0 (by omega) i0 i1
      show jw_W (js_S n) _ md_91 28 [some (.inr (.inr 92)), some (.inr (.inr 57)), some (.inr (.inr (o + 1))), some (.inl i), some (.inl j), v5, none, v7, none] [.inr (.inl (jm_mw σ0 0 j i))] σ _
      refine jw_W_n 2 (i' := 30) (ls' := [some (.inr (.inr 92)), some (.inr (.inr 57)), some (.inr (.inr (o + 1))), some (.inl i), some (.inl j), some (.inr (.inl (jm_mw σ0 0 j i))), none, v7, none]) (st' := [.inr (.inr 57)]) rfl ?_
      refine jw_W_gf rfl rfl rfl ?_
      show jw_W (js_S n) _ md_91 31 [some (.inr (.inr 92)), some (.inr (.inr 57)), some (.inr (.inr (o + 1))), some (.inl i), some (.inl j), some (.inr (.inl (jm_mw σ0 0 j i))), none, v7, none] [.inr (.inr 58)] σ _
      refine jw_W_n 4 (i' := 35) (ls' := [some (.inr (.inr 92)), some (.inr (.inr 57)), some (.inr (.inr (o + 1))), some (.inl i), some (.inl j), some (.inr (.inl (jm_mw σ0 0 j i))), none, v7, none]) (st' := [.inl 3, .inr (.inr (o + 1)), .inl j, .inl i, .inr (.inr 58)]) rfl ?_
      refine jw_W_call (as := [.inr (.inr 58), .inl i, .inl j, .inr (.inr (o + 1)), .inl 3]) (rest := []) rfl rfl rfl rfl (Nat.le_of_ble_eq_true rfl) (.inr rfl) (jx_chM hI (i := j) (j := i) (w := 1) j0 (by omega) i0 (by omega) (by omega) (by omega)) (by omega) ?_ rfl
      rintro r1 σz ⟨rfl, hs⟩
      rw [hs, jm_mw_me hme]
      have hb1 := jm_mw_bd hP0 hcb (w := 1) (i := j) (j := i) (by omega) (by omega) j0 (by omega) i0 i1
      show jw_W (js_S n) _ md_91 36 [some (.inr (.inr 92)), some (.inr (.inr 57)), some (.inr (.inr (o + 1))), some (.inl i), some (.inl j), some (.inr (.inl (jm_mw σ0 0 j i))), none, v7, none] [.inr (.inl (jm_mw σ0 1 j i))] σ _
      refine jw_W_n 3 (i' := 39) (ls' := [some (.inr (.inr 92)), some (.inr (.inr 57)), some (.inr (.inr (o + 1))), some (.inl i), some (.inl j), some (.inr (.inl (jm_mw σ0 0 j i))), none, some (.inr (.inl (jm_mw σ0 1 j i))), none]) (st' := [.inr (.inl 0), .inr (.inl (jm_mw σ0 0 j i))]) rfl ?_
      refine jw_W_lc rfl rfl (by unfold jw_rgl; omega) (by unfold jw_rgl; omega) (fun hc2 => ?_) (fun hc2 => ?_)
      · have hc2 : (jm_mw σ0 0 j i) ≤ 0 := hc2
        refine jw_W_n 2 (i' := 47) (ls' := [some (.inr (.inr 92)), some (.inr (.inr 57)), some (.inr (.inr (o + 1))), some (.inl i), some (.inl j), some (.inr (.inl (jm_mw σ0 0 j i))), none, some (.inr (.inl (jm_mw σ0 1 j i))), none]) (st' := [.inr (.inl 0), .inr (.inl (jm_mw σ0 0 j i))]) rfl ?_
        refine jw_W_lc rfl rfl (by unfold jw_rgl; omega) (by unfold jw_rgl; omega) (fun hc3 => ?_) (fun hc3 => ?_)
        · have hc3 : (jm_mw σ0 0 j i) ≥ 0 := hc3
          refine jw_W_n 2 (i' := 17) (ls' := [some (.inr (.inr 92)), some (.inr (.inr 57)), some (.inr (.inr (o + 1))), some (.inl i), some (.inl (j + 1)), some (.inr (.inl (jm_mw σ0 0 j i))), none, some (.inr (.inl (jm_mw σ0 1 j i))), none]) (st' := []) rfl ?_
          exact ih (by omega) hfy hL htq (jn_cw_s (fun y hy => hy) hcw (fun hh _ => by exfalso; omega))
        · have hc3 : ¬ ((jm_mw σ0 0 j i) ≥ 0) := hc3
          refine jw_W_n 2 (i' := 51) (ls' := [some (.inr (.inr 92)), some (.inr (.inr 57)), some (.inr (.inr (o + 1))), some (.inl i), some (.inl j), some (.inr (.inl (jm_mw σ0 0 j i))), none, some (.inr (.inl (jm_mw σ0 1 j i))), none]) (st' := [.inr (.inl 0), .inr (.inl (jm_mw σ0 1 j i))]) rfl ?_
          refine jw_W_lc rfl rfl (by unfold jw_rgl; omega) (by unfold jw_rgl; omega) (fun hc4 => ?_) (fun hc4 => ?_)
          · have hc4 : (jm_mw σ0 1 j i) ≤ 0 := hc4
            refine jw_W_n 2 (i' := 17) (ls' := [some (.inr (.inr 92)), some (.inr (.inr 57)), some (.inr (.inr (o + 1))), some (.inl i), some (.inl (j + 1)), some (.inr (.inl (jm_mw σ0 0 j i))), none, some (.inr (.inl (jm_mw σ0 1 j i))), none]) (st' := []) rfl ?_
            exact ih (by omega) hfy hL htq (jn_cw_s (fun y hy => hy) hcw (fun hh _ => by exfalso; omega))
          · have hc4 : ¬ ((jm_mw σ0 1 j i) ≤ 0) := hc4
            have hop : jn_op σ0 i j := by unfold jn_op; omega
            obtain ⟨sk1, sk2, sk3, sk4⟩ := jn_sh_ok hP0 hcb h2 i0 i1 j0 (by omega) hop
            refine jw_W_n 1 (i' := 54) (ls' := [some (.inr (.inr 92)), some (.inr (.inr 57)), some (.inr (.inr (o + 1))), some (.inl i), some (.inl j), some (.inr (.inl (jm_mw σ0 0 j i))), none, some (.inr (.inl (jm_mw σ0 1 j i))), none]) (st' := [.inr (.inr 92)]) rfl ?_
            refine jw_W_gf rfl rfl rfl ?_
            show jw_W (js_S n) _ md_91 55 [some (.inr (.inr 92)), some (.inr (.inr 57)), some (.inr (.inr (o + 1))), some (.inl i), some (.inl j), some (.inr (.inl (jm_mw σ0 0 j i))), none, some (.inr (.inl (jm_mw σ0 1 j i))), none] [.inr (.inr 97)] σ _
            refine jw_W_n 4 (i' := 59) (ls' := [some (.inr (.inr 92)), some (.inr (.inr 57)), some (.inr (.inr (o + 1))), some (.inl i), some (.inl j), some (.inr (.inl (jm_mw σ0 0 j i))), none, some (.inr (.inl (jm_mw σ0 1 j i))), none]) (st' := [.inr (.inl (jm_mw σ0 1 j i - (jm_mw σ0 0 j i))), .inr (.inl (jm_mw σ0 1 j i)), .inr (.inr 97)]) rfl ?_
            refine jw_W_call (as := [.inr (.inr 97), .inr (.inl (jm_mw σ0 1 j i)), .inr (.inl (jm_mw σ0 1 j i - (jm_mw σ0 0 j i)))]) (rest := []) rfl rfl rfl rfl (Nat.le_of_ble_eq_true rfl) (.inr rfl) (jx_set (jx_fo_97 n) (by unfold jm_bg; omega) (by unfold jm_bg; omega) (by omega)) (by omega) ?_ rfl
            rintro r1 σ1 ⟨rfl, hs1⟩
            rw [show jx_fr (jm_mw σ0 1 j i) (jm_mw σ0 1 j i - jm_mw σ0 0 j i) = jn_sh σ0 i j from rfl] at hs1
            have hfy1 : jx_fy σ0 σ1 := by rw [hs1]; exact jx_fy_fs hfy (by omega)
            have hK1 := jx_K_y hfy1 hK0
            have hme1 := jx_fx_me (jx_fy_x hfy1)
            have e561 : σ1 103 56 = σ0 103 56 := by rw [hme1 103 (by omega)]
            have e970 : σ1 97 0 = (jn_sh σ0 i j).1 := by rw [hs1]; exact jx_fs_0 _ _ _
            have e971 : σ1 97 1 = (jn_sh σ0 i j).2 := by rw [hs1]; exact jx_fs_1 _ _ _
            have hL1 : jn_tw 95 96 92 2 σ1 L := by rw [hs1]; unfold jn_tw; rw [jx_fs_o _ _ (by decide), jx_fs_o _ _ (by decide), jx_fs_o _ _ (by decide)]; exact hL
            show jw_W (js_S n) _ md_91 60 [some (.inr (.inr 92)), some (.inr (.inr 57)), some (.inr (.inr (o + 1))), some (.inl i), some (.inl j), some (.inr (.inl (jm_mw σ0 0 j i))), none, some (.inr (.inl (jm_mw σ0 1 j i))), none] [] σ1 _
            refine jw_W_n 3 (i' := 63) (ls' := [some (.inr (.inr 92)), some (.inr (.inr 57)), some (.inr (.inr (o + 1))), some (.inl i), some (.inl j), some (.inr (.inl (jm_mw σ0 0 j i))), none, some (.inr (.inl (jm_mw σ0 1 j i))), none]) (st' := [.inl i, .inr (.inr 57), .inr (.inr 92)]) rfl ?_
            refine jw_W_call (as := [.inr (.inr 92), .inr (.inr 57), .inl i]) (rest := []) rfl rfl rfl rfl (Nat.le_of_ble_eq_true rfl) (.inr rfl) (jx_isBest hK1.1 i0 (by omega) e970 e971 (show jn_sm (jn_sh σ0 i j) from sk1) (by omega) (by rw [hme1 103 (by omega)]; exact h2)) (by omega) ?_ rfl
            rintro r1 σz (⟨rfl, hs, hbe⟩ | ⟨rfl, hs, hbe⟩)
            · rw [hs]
              rw [jm_mw_me hme1, jm_mw_me hme1, e561] at hbe
              show jw_W (js_S n) _ md_91 64 [some (.inr (.inr 92)), some (.inr (.inr 57)), some (.inr (.inr (o + 1))), some (.inl i), some (.inl j), some (.inr (.inl (jm_mw σ0 0 j i))), none, some (.inr (.inl (jm_mw σ0 1 j i))), none] [.inl 1] σ1 _
              refine jw_W_if rfl (by unfold jw_rg; omega) (fun hc5 => ?_) (fun hc5 => ?_)
              · exact absurd hc5 (show ¬ ((1 : Int) = 0) by omega)
              · clear hc5
                refine jw_W_n 2 (i' := 67) (ls' := [some (.inr (.inr 92)), some (.inr (.inr 57)), some (.inr (.inr (o + 1))), some (.inl i), some (.inl j), some (.inr (.inl (jm_mw σ0 0 j i))), none, some (.inr (.inl (jm_mw σ0 1 j i))), none]) (st' := [.inr (.inr 92), .inr (.inr 92)]) rfl ?_
                refine jw_W_gf rfl rfl rfl ?_
                show jw_W (js_S n) _ md_91 68 [some (.inr (.inr 92)), some (.inr (.inr 57)), some (.inr (.inr (o + 1))), some (.inl i), some (.inl j), some (.inr (.inl (jm_mw σ0 0 j i))), none, some (.inr (.inl (jm_mw σ0 1 j i))), none] [.inr (.inr 97), .inr (.inr 92)] σ1 _
                refine jw_W_gf rfl rfl rfl ?_
                show jw_W (js_S n) _ md_91 69 [some (.inr (.inr 92)), some (.inr (.inr 57)), some (.inr (.inr (o + 1))), some (.inl i), some (.inl j), some (.inr (.inl (jm_mw σ0 0 j i))), none, some (.inr (.inl (jm_mw σ0 1 j i))), none] [.inr (.inl (σ1 97 0)), .inr (.inr 92)] σ1 _
                rw [e970]
                refine jw_W_n 1 (i' := 70) (ls' := [some (.inr (.inr 92)), some (.inr (.inr 57)), some (.inr (.inr (o + 1))), some (.inl i), some (.inl j), some (.inr (.inl (jm_mw σ0 0 j i))), none, some (.inr (.inl (jm_mw σ0 1 j i))), none]) (st' := [.inr (.inr 92), .inr (.inl ((jn_sh σ0 i j).1)), .inr (.inr 92)]) rfl ?_
                refine jw_W_gf rfl rfl rfl ?_
                show jw_W (js_S n) _ md_91 71 [some (.inr (.inr 92)), some (.inr (.inr 57)), some (.inr (.inr (o + 1))), some (.inl i), some (.inl j), some (.inr (.inl (jm_mw σ0 0 j i))), none, some (.inr (.inl (jm_mw σ0 1 j i))), none] [.inr (.inr 97), .inr (.inl ((jn_sh σ0 i j).1)), .inr (.inr 92)] σ1 _
                refine jw_W_gf rfl rfl rfl ?_
                show jw_W (js_S n) _ md_91 72 [some (.inr (.inr 92)), some (.inr (.inr 57)), some (.inr (.inr (o + 1))), some (.inl i), some (.inl j), some (.inr (.inl (jm_mw σ0 0 j i))), none, some (.inr (.inl (jm_mw σ0 1 j i))), none] [.inr (.inl (σ1 97 1)), .inr (.inl ((jn_sh σ0 i j).1)), .inr (.inr 92)] σ1 _
                rw [e971]
                refine jw_W_call (as := [.inr (.inr 92), .inr (.inl ((jn_sh σ0 i j).1)), .inr (.inl ((jn_sh σ0 i j).2))]) (rest := []) rfl rfl rfl rfl (Nat.le_of_ble_eq_true rfl) (.inr rfl) (jx_tins (u := (jn_sh σ0 i j).1) (l := (jn_sh σ0 i j).2) sk1 sk3 (fun y hy => (htq.2 y hy).1) (fun y hy => (htq.2 y hy).2.2.1) htq.1 hL1 (jn_tq_len hcn.2 htq)) (by omega) ?_ rfl
                rintro r1 σ2 ⟨rfl, hf2, L2, hL2, hso2, hme2⟩
                have hfy2 := jx_fy_tr hfy1 (jn_f95_y hf2)
                have htq2 := jn_tq_add hP0 hcb h2 i0 i1 j0 (by omega) hop hbe htq hso2 hme2
                show jw_W (js_S n) _ md_91 73 [some (.inr (.inr 92)), some (.inr (.inr 57)), some (.inr (.inr (o + 1))), some (.inl i), some (.inl j), some (.inr (.inl (jm_mw σ0 0 j i))), none, some (.inr (.inl (jm_mw σ0 1 j i))), none] [] σ2 _
                refine jw_W_n 2 (i' := 17) (ls' := [some (.inr (.inr 92)), some (.inr (.inr 57)), some (.inr (.inr (o + 1))), some (.inl i), some (.inl (j + 1)), some (.inr (.inl (jm_mw σ0 0 j i))), none, some (.inr (.inl (jm_mw σ0 1 j i))), none]) (st' := []) rfl ?_
                exact ih (by omega) hfy2 hL2 htq2 (jn_cw_s (fun y hy => (hme2 y).mpr (.inl hy)) hcw (fun _ _ => (hme2 _).mpr (.inr rfl)))
            · rw [hs]
              rw [jm_mw_me hme1, jm_mw_me hme1, e561] at hbe
              show jw_W (js_S n) _ md_91 64 [some (.inr (.inr 92)), some (.inr (.inr 57)), some (.inr (.inr (o + 1))), some (.inl i), some (.inl j), some (.inr (.inl (jm_mw σ0 0 j i))), none, some (.inr (.inl (jm_mw σ0 1 j i))), none] [.inl 0] σ1 _
              refine jw_W_if rfl (by unfold jw_rg; omega) (fun hc6 => ?_) (fun hc6 => ?_)
              · clear hc6
                refine jw_W_n 2 (i' := 17) (ls' := [some (.inr (.inr 92)), some (.inr (.inr 57)), some (.inr (.inr (o + 1))), some (.inl i), some (.inl (j + 1)), some (.inr (.inl (jm_mw σ0 0 j i))), none, some (.inr (.inl (jm_mw σ0 1 j i))), none]) (st' := []) rfl ?_
                exact ih (by omega) hfy1 hL1 htq (jn_cw_s (fun y hy => hy) hcw (fun _ hh => absurd hh hbe))
              · exact absurd hc6 (show ¬ ¬ ((0 : Int) = 0) by omega)
      · have hc2 : ¬ ((jm_mw σ0 0 j i) ≤ 0) := hc2
        refine jw_W_n 2 (i' := 43) (ls' := [some (.inr (.inr 92)), some (.inr (.inr 57)), some (.inr (.inr (o + 1))), some (.inl i), some (.inl j), some (.inr (.inl (jm_mw σ0 0 j i))), none, some (.inr (.inl (jm_mw σ0 1 j i))), none]) (st' := [.inr (.inl 0), .inr (.inl (jm_mw σ0 1 j i))]) rfl ?_
        refine jw_W_lc rfl rfl (by unfold jw_rgl; omega) (by unfold jw_rgl; omega) (fun hc7 => ?_) (fun hc7 => ?_)
        · have hc7 : (jm_mw σ0 1 j i) < 0 := hc7
          have hop : jn_op σ0 i j := by unfold jn_op; omega
          obtain ⟨sk1, sk2, sk3, sk4⟩ := jn_sh_ok hP0 hcb h2 i0 i1 j0 (by omega) hop
          refine jw_W_n 1 (i' := 54) (ls' := [some (.inr (.inr 92)), some (.inr (.inr 57)), some (.inr (.inr (o + 1))), some (.inl i), some (.inl j), some (.inr (.inl (jm_mw σ0 0 j i))), none, some (.inr (.inl (jm_mw σ0 1 j i))), none]) (st' := [.inr (.inr 92)]) rfl ?_
          refine jw_W_gf rfl rfl rfl ?_
          show jw_W (js_S n) _ md_91 55 [some (.inr (.inr 92)), some (.inr (.inr 57)), some (.inr (.inr (o + 1))), some (.inl i), some (.inl j), some (.inr (.inl (jm_mw σ0 0 j i))), none, some (.inr (.inl (jm_mw σ0 1 j i))), none] [.inr (.inr 97)] σ _
          refine jw_W_n 4 (i' := 59) (ls' := [some (.inr (.inr 92)), some (.inr (.inr 57)), some (.inr (.inr (o + 1))), some (.inl i), some (.inl j), some (.inr (.inl (jm_mw σ0 0 j i))), none, some (.inr (.inl (jm_mw σ0 1 j i))), none]) (st' := [.inr (.inl (jm_mw σ0 1 j i - (jm_mw σ0 0 j i))), .inr (.inl (jm_mw σ0 1 j i)), .inr (.inr 97)]) rfl ?_
          refine jw_W_call (as := [.inr (.inr 97), .inr (.inl (jm_mw σ0 1 j i)), .inr (.inl (jm_mw σ0 1 j i - (jm_mw σ0 0 j i)))]) (rest := []) rfl rfl rfl rfl (Nat.le_of_ble_eq_true rfl) (.inr rfl) (jx_set (jx_fo_97 n) (by unfold jm_bg; omega) (by unfold jm_bg; omega) (by omega)) (by omega) ?_ rfl
          rintro r1 σ1 ⟨rfl, hs1⟩
          rw [show jx_fr (jm_mw σ0 1 j i) (jm_mw σ0 1 j i - jm_mw σ0 0 j i) = jn_sh σ0 i j from rfl] at hs1
          have hfy1 : jx_fy σ0 σ1 := by rw [hs1]; exact jx_fy_fs hfy (by omega)
          have hK1 := jx_K_y hfy1 hK0
          have hme1 := jx_fx_me (jx_fy_x hfy1)
          have e561 : σ1 103 56 = σ0 103 56 := by rw [hme1 103 (by omega)]
          have e970 : σ1 97 0 = (jn_sh σ0 i j).1 := by rw [hs1]; exact jx_fs_0 _ _ _
          have e971 : σ1 97 1 = (jn_sh σ0 i j).2 := by rw [hs1]; exact jx_fs_1 _ _ _
          have hL1 : jn_tw 95 96 92 2 σ1 L := by rw [hs1]; unfold jn_tw; rw [jx_fs_o _ _ (by decide), jx_fs_o _ _ (by decide), jx_fs_o _ _ (by decide)]; exact hL
          show jw_W (js_S n) _ md_91 60 [some (.inr (.inr 92)), some (.inr (.inr 57)), some (.inr (.inr (o + 1))), some (.inl i), some (.inl j), some (.inr (.inl (jm_mw σ0 0 j i))), none, some (.inr (.inl (jm_mw σ0 1 j i))), none] [] σ1 _
          refine jw_W_n 3 (i' := 63) (ls' := [some (.inr (.inr 92)), some (.inr (.inr 57)), some (.inr (.inr (o + 1))), some (.inl i), some (.inl j), some (.inr (.inl (jm_mw σ0 0 j i))), none, some (.inr (.inl (jm_mw σ0 1 j i))), none]) (st' := [.inl i, .inr (.inr 57), .inr (.inr 92)]) rfl ?_
          refine jw_W_call (as := [.inr (.inr 92), .inr (.inr 57), .inl i]) (rest := []) rfl rfl rfl rfl (Nat.le_of_ble_eq_true rfl) (.inr rfl) (jx_isBest hK1.1 i0 (by omega) e970 e971 (show jn_sm (jn_sh σ0 i j) from sk1) (by omega) (by rw [hme1 103 (by omega)]; exact h2)) (by omega) ?_ rfl
          rintro r1 σz (⟨rfl, hs, hbe⟩ | ⟨rfl, hs, hbe⟩)
          · rw [hs]
            rw [jm_mw_me hme1, jm_mw_me hme1, e561] at hbe
            show jw_W (js_S n) _ md_91 64 [some (.inr (.inr 92)), some (.inr (.inr 57)), some (.inr (.inr (o + 1))), some (.inl i), some (.inl j), some (.inr (.inl (jm_mw σ0 0 j i))), none, some (.inr (.inl (jm_mw σ0 1 j i))), none] [.inl 1] σ1 _
            refine jw_W_if rfl (by unfold jw_rg; omega) (fun hc8 => ?_) (fun hc8 => ?_)
            · exact absurd hc8 (show ¬ ((1 : Int) = 0) by omega)
            · clear hc8
              refine jw_W_n 2 (i' := 67) (ls' := [some (.inr (.inr 92)), some (.inr (.inr 57)), some (.inr (.inr (o + 1))), some (.inl i), some (.inl j), some (.inr (.inl (jm_mw σ0 0 j i))), none, some (.inr (.inl (jm_mw σ0 1 j i))), none]) (st' := [.inr (.inr 92), .inr (.inr 92)]) rfl ?_
              refine jw_W_gf rfl rfl rfl ?_
              show jw_W (js_S n) _ md_91 68 [some (.inr (.inr 92)), some (.inr (.inr 57)), some (.inr (.inr (o + 1))), some (.inl i), some (.inl j), some (.inr (.inl (jm_mw σ0 0 j i))), none, some (.inr (.inl (jm_mw σ0 1 j i))), none] [.inr (.inr 97), .inr (.inr 92)] σ1 _
              refine jw_W_gf rfl rfl rfl ?_
              show jw_W (js_S n) _ md_91 69 [some (.inr (.inr 92)), some (.inr (.inr 57)), some (.inr (.inr (o + 1))), some (.inl i), some (.inl j), some (.inr (.inl (jm_mw σ0 0 j i))), none, some (.inr (.inl (jm_mw σ0 1 j i))), none] [.inr (.inl (σ1 97 0)), .inr (.inr 92)] σ1 _
              rw [e970]
              refine jw_W_n 1 (i' := 70) (ls' := [some (.inr (.inr 92)), some (.inr (.inr 57)), some (.inr (.inr (o + 1))), some (.inl i), some (.inl j), some (.inr (.inl (jm_mw σ0 0 j i))), none, some (.inr (.inl (jm_mw σ0 1 j i))), none]) (st' := [.inr (.inr 92), .inr (.inl ((jn_sh σ0 i j).1)), .inr (.inr 92)]) rfl ?_
              refine jw_W_gf rfl rfl rfl ?_
              show jw_W (js_S n) _ md_91 71 [some (.inr (.inr 92)), some (.inr (.inr 57)), some (.inr (.inr (o + 1))), some (.inl i), some (.inl j), some (.inr (.inl (jm_mw σ0 0 j i))), none, some (.inr (.inl (jm_mw σ0 1 j i))), none] [.inr (.inr 97), .inr (.inl ((jn_sh σ0 i j).1)), .inr (.inr 92)] σ1 _
              refine jw_W_gf rfl rfl rfl ?_
              show jw_W (js_S n) _ md_91 72 [some (.inr (.inr 92)), some (.inr (.inr 57)), some (.inr (.inr (o + 1))), some (.inl i), some (.inl j), some (.inr (.inl (jm_mw σ0 0 j i))), none, some (.inr (.inl (jm_mw σ0 1 j i))), none] [.inr (.inl (σ1 97 1)), .inr (.inl ((jn_sh σ0 i j).1)), .inr (.inr 92)] σ1 _
              rw [e971]
              refine jw_W_call (as := [.inr (.inr 92), .inr (.inl ((jn_sh σ0 i j).1)), .inr (.inl ((jn_sh σ0 i j).2))]) (rest := []) rfl rfl rfl rfl (Nat.le_of_ble_eq_true rfl) (.inr rfl) (jx_tins (u := (jn_sh σ0 i j).1) (l := (jn_sh σ0 i j).2) sk1 sk3 (fun y hy => (htq.2 y hy).1) (fun y hy => (htq.2 y hy).2.2.1) htq.1 hL1 (jn_tq_len hcn.2 htq)) (by omega) ?_ rfl
              rintro r1 σ2 ⟨rfl, hf2, L2, hL2, hso2, hme2⟩
              have hfy2 := jx_fy_tr hfy1 (jn_f95_y hf2)
              have htq2 := jn_tq_add hP0 hcb h2 i0 i1 j0 (by omega) hop hbe htq hso2 hme2
              show jw_W (js_S n) _ md_91 73 [some (.inr (.inr 92)), some (.inr (.inr 57)), some (.inr (.inr (o + 1))), some (.inl i), some (.inl j), some (.inr (.inl (jm_mw σ0 0 j i))), none, some (.inr (.inl (jm_mw σ0 1 j i))), none] [] σ2 _
              refine jw_W_n 2 (i' := 17) (ls' := [some (.inr (.inr 92)), some (.inr (.inr 57)), some (.inr (.inr (o + 1))), some (.inl i), some (.inl (j + 1)), some (.inr (.inl (jm_mw σ0 0 j i))), none, some (.inr (.inl (jm_mw σ0 1 j i))), none]) (st' := []) rfl ?_
              exact ih (by omega) hfy2 hL2 htq2 (jn_cw_s (fun y hy => (hme2 y).mpr (.inl hy)) hcw (fun _ _ => (hme2 _).mpr (.inr rfl)))
          · rw [hs]
            rw [jm_mw_me hme1, jm_mw_me hme1, e561] at hbe
            show jw_W (js_S n) _ md_91 64 [some (.inr (.inr 92)), some (.inr (.inr 57)), some (.inr (.inr (o + 1))), some (.inl i), some (.inl j), some (.inr (.inl (jm_mw σ0 0 j i))), none, some (.inr (.inl (jm_mw σ0 1 j i))), none] [.inl 0] σ1 _
            refine jw_W_if rfl (by unfold jw_rg; omega) (fun hc9 => ?_) (fun hc9 => ?_)
            · clear hc9
              refine jw_W_n 2 (i' := 17) (ls' := [some (.inr (.inr 92)), some (.inr (.inr 57)), some (.inr (.inr (o + 1))), some (.inl i), some (.inl (j + 1)), some (.inr (.inl (jm_mw σ0 0 j i))), none, some (.inr (.inl (jm_mw σ0 1 j i))), none]) (st' := []) rfl ?_
              exact ih (by omega) hfy1 hL1 htq (jn_cw_s (fun y hy => hy) hcw (fun _ hh => absurd hh hbe))
            · exact absurd hc9 (show ¬ ¬ ((0 : Int) = 0) by omega)
        · have hc7 : ¬ ((jm_mw σ0 1 j i) < 0) := hc7
          refine jw_W_n 2 (i' := 47) (ls' := [some (.inr (.inr 92)), some (.inr (.inr 57)), some (.inr (.inr (o + 1))), some (.inl i), some (.inl j), some (.inr (.inl (jm_mw σ0 0 j i))), none, some (.inr (.inl (jm_mw σ0 1 j i))), none]) (st' := [.inr (.inl 0), .inr (.inl (jm_mw σ0 0 j i))]) rfl ?_
          refine jw_W_lc rfl rfl (by unfold jw_rgl; omega) (by unfold jw_rgl; omega) (fun hc10 => ?_) (fun hc10 => ?_)
          · have hc10 : (jm_mw σ0 0 j i) ≥ 0 := hc10
            refine jw_W_n 2 (i' := 17) (ls' := [some (.inr (.inr 92)), some (.inr (.inr 57)), some (.inr (.inr (o + 1))), some (.inl i), some (.inl (j + 1)), some (.inr (.inl (jm_mw σ0 0 j i))), none, some (.inr (.inl (jm_mw σ0 1 j i))), none]) (st' := []) rfl ?_
            exact ih (by omega) hfy hL htq (jn_cw_s (fun y hy => hy) hcw (fun hh _ => by exfalso; omega))
          · have hc10 : ¬ ((jm_mw σ0 0 j i) ≥ 0) := hc10
            refine jw_W_n 2 (i' := 51) (ls' := [some (.inr (.inr 92)), some (.inr (.inr 57)), some (.inr (.inr (o + 1))), some (.inl i), some (.inl j), some (.inr (.inl (jm_mw σ0 0 j i))), none, some (.inr (.inl (jm_mw σ0 1 j i))), none]) (st' := [.inr (.inl 0), .inr (.inl (jm_mw σ0 1 j i))]) rfl ?_
            refine jw_W_lc rfl rfl (by unfold jw_rgl; omega) (by unfold jw_rgl; omega) (fun hc11 => ?_) (fun hc11 => ?_)
            · have hc11 : (jm_mw σ0 1 j i) ≤ 0 := hc11
              refine jw_W_n 2 (i' := 17) (ls' := [some (.inr (.inr 92)), some (.inr (.inr 57)), some (.inr (.inr (o + 1))), some (.inl i), some (.inl (j + 1)), some (.inr (.inl (jm_mw σ0 0 j i))), none, some (.inr (.inl (jm_mw σ0 1 j i))), none]) (st' := []) rfl ?_
              exact ih (by omega) hfy hL htq (jn_cw_s (fun y hy => hy) hcw (fun hh _ => by exfalso; omega))
            · have hc11 : ¬ ((jm_mw σ0 1 j i) ≤ 0) := hc11
              have hop : jn_op σ0 i j := by unfold jn_op; omega
              obtain ⟨sk1, sk2, sk3, sk4⟩ := jn_sh_ok hP0 hcb h2 i0 i1 j0 (by omega) hop
              refine jw_W_n 1 (i' := 54) (ls' := [some (.inr (.inr 92)), some (.inr (.inr 57)), some (.inr (.inr (o + 1))), some (.inl i), some (.inl j), some (.inr (.inl (jm_mw σ0 0 j i))), none, some (.inr (.inl (jm_mw σ0 1 j i))), none]) (st' := [.inr (.inr 92)]) rfl ?_
              refine jw_W_gf rfl rfl rfl ?_
              show jw_W (js_S n) _ md_91 55 [some (.inr (.inr 92)), some (.inr (.inr 57)), some (.inr (.inr (o + 1))), some (.inl i), some (.inl j), some (.inr (.inl (jm_mw σ0 0 j i))), none, some (.inr (.inl (jm_mw σ0 1 j i))), none] [.inr (.inr 97)] σ _
              refine jw_W_n 4 (i' := 59) (ls' := [some (.inr (.inr 92)), some (.inr (.inr 57)), some (.inr (.inr (o + 1))), some (.inl i), some (.inl j), some (.inr (.inl (jm_mw σ0 0 j i))), none, some (.inr (.inl (jm_mw σ0 1 j i))), none]) (st' := [.inr (.inl (jm_mw σ0 1 j i - (jm_mw σ0 0 j i))), .inr (.inl (jm_mw σ0 1 j i)), .inr (.inr 97)]) rfl ?_
              refine jw_W_call (as := [.inr (.inr 97), .inr (.inl (jm_mw σ0 1 j i)), .inr (.inl (jm_mw σ0 1 j i - (jm_mw σ0 0 j i)))]) (rest := []) rfl rfl rfl rfl (Nat.le_of_ble_eq_true rfl) (.inr rfl) (jx_set (jx_fo_97 n) (by unfold jm_bg; omega) (by unfold jm_bg; omega) (by omega)) (by omega) ?_ rfl
              rintro r1 σ1 ⟨rfl, hs1⟩
              rw [show jx_fr (jm_mw σ0 1 j i) (jm_mw σ0 1 j i - jm_mw σ0 0 j i) = jn_sh σ0 i j from rfl] at hs1
              have hfy1 : jx_fy σ0 σ1 := by rw [hs1]; exact jx_fy_fs hfy (by omega)
              have hK1 := jx_K_y hfy1 hK0
              have hme1 := jx_fx_me (jx_fy_x hfy1)
              have e561 : σ1 103 56 = σ0 103 56 := by rw [hme1 103 (by omega)]
              have e970 : σ1 97 0 = (jn_sh σ0 i j).1 := by rw [hs1]; exact jx_fs_0 _ _ _
              have e971 : σ1 97 1 = (jn_sh σ0 i j).2 := by rw [hs1]; exact jx_fs_1 _ _ _
              have hL1 : jn_tw 95 96 92 2 σ1 L := by rw [hs1]; unfold jn_tw; rw [jx_fs_o _ _ (by decide), jx_fs_o _ _ (by decide), jx_fs_o _ _ (by decide)]; exact hL
              show jw_W (js_S n) _ md_91 60 [some (.inr (.inr 92)), some (.inr (.inr 57)), some (.inr (.inr (o + 1))), some (.inl i), some (.inl j), some (.inr (.inl (jm_mw σ0 0 j i))), none, some (.inr (.inl (jm_mw σ0 1 j i))), none] [] σ1 _
              refine jw_W_n 3 (i' := 63) (ls' := [some (.inr (.inr 92)), some (.inr (.inr 57)), some (.inr (.inr (o + 1))), some (.inl i), some (.inl j), some (.inr (.inl (jm_mw σ0 0 j i))), none, some (.inr (.inl (jm_mw σ0 1 j i))), none]) (st' := [.inl i, .inr (.inr 57), .inr (.inr 92)]) rfl ?_
              refine jw_W_call (as := [.inr (.inr 92), .inr (.inr 57), .inl i]) (rest := []) rfl rfl rfl rfl (Nat.le_of_ble_eq_true rfl) (.inr rfl) (jx_isBest hK1.1 i0 (by omega) e970 e971 (show jn_sm (jn_sh σ0 i j) from sk1) (by omega) (by rw [hme1 103 (by omega)]; exact h2)) (by omega) ?_ rfl
              rintro r1 σz (⟨rfl, hs, hbe⟩ | ⟨rfl, hs, hbe⟩)
              · rw [hs]
                rw [jm_mw_me hme1, jm_mw_me hme1, e561] at hbe
                show jw_W (js_S n) _ md_91 64 [some (.inr (.inr 92)), some (.inr (.inr 57)), some (.inr (.inr (o + 1))), some (.inl i), some (.inl j), some (.inr (.inl (jm_mw σ0 0 j i))), none, some (.inr (.inl (jm_mw σ0 1 j i))), none] [.inl 1] σ1 _
                refine jw_W_if rfl (by unfold jw_rg; omega) (fun hc12 => ?_) (fun hc12 => ?_)
                · exact absurd hc12 (show ¬ ((1 : Int) = 0) by omega)
                · clear hc12
                  refine jw_W_n 2 (i' := 67) (ls' := [some (.inr (.inr 92)), some (.inr (.inr 57)), some (.inr (.inr (o + 1))), some (.inl i), some (.inl j), some (.inr (.inl (jm_mw σ0 0 j i))), none, some (.inr (.inl (jm_mw σ0 1 j i))), none]) (st' := [.inr (.inr 92), .inr (.inr 92)]) rfl ?_
                  refine jw_W_gf rfl rfl rfl ?_
                  show jw_W (js_S n) _ md_91 68 [some (.inr (.inr 92)), some (.inr (.inr 57)), some (.inr (.inr (o + 1))), some (.inl i), some (.inl j), some (.inr (.inl (jm_mw σ0 0 j i))), none, some (.inr (.inl (jm_mw σ0 1 j i))), none] [.inr (.inr 97), .inr (.inr 92)] σ1 _
                  refine jw_W_gf rfl rfl rfl ?_
                  show jw_W (js_S n) _ md_91 69 [some (.inr (.inr 92)), some (.inr (.inr 57)), some (.inr (.inr (o + 1))), some (.inl i), some (.inl j), some (.inr (.inl (jm_mw σ0 0 j i))), none, some (.inr (.inl (jm_mw σ0 1 j i))), none] [.inr (.inl (σ1 97 0)), .inr (.inr 92)] σ1 _
                  rw [e970]
                  refine jw_W_n 1 (i' := 70) (ls' := [some (.inr (.inr 92)), some (.inr (.inr 57)), some (.inr (.inr (o + 1))), some (.inl i), some (.inl j), some (.inr (.inl (jm_mw σ0 0 j i))), none, some (.inr (.inl (jm_mw σ0 1 j i))), none]) (st' := [.inr (.inr 92), .inr (.inl ((jn_sh σ0 i j).1)), .inr (.inr 92)]) rfl ?_
                  refine jw_W_gf rfl rfl rfl ?_
                  show jw_W (js_S n) _ md_91 71 [some (.inr (.inr 92)), some (.inr (.inr 57)), some (.inr (.inr (o + 1))), some (.inl i), some (.inl j), some (.inr (.inl (jm_mw σ0 0 j i))), none, some (.inr (.inl (jm_mw σ0 1 j i))), none] [.inr (.inr 97), .inr (.inl ((jn_sh σ0 i j).1)), .inr (.inr 92)] σ1 _
                  refine jw_W_gf rfl rfl rfl ?_
                  show jw_W (js_S n) _ md_91 72 [some (.inr (.inr 92)), some (.inr (.inr 57)), some (.inr (.inr (o + 1))), some (.inl i), some (.inl j), some (.inr (.inl (jm_mw σ0 0 j i))), none, some (.inr (.inl (jm_mw σ0 1 j i))), none] [.inr (.inl (σ1 97 1)), .inr (.inl ((jn_sh σ0 i j).1)), .inr (.inr 92)] σ1 _
                  rw [e971]
                  refine jw_W_call (as := [.inr (.inr 92), .inr (.inl ((jn_sh σ0 i j).1)), .inr (.inl ((jn_sh σ0 i j).2))]) (rest := []) rfl rfl rfl rfl (Nat.le_of_ble_eq_true rfl) (.inr rfl) (jx_tins (u := (jn_sh σ0 i j).1) (l := (jn_sh σ0 i j).2) sk1 sk3 (fun y hy => (htq.2 y hy).1) (fun y hy => (htq.2 y hy).2.2.1) htq.1 hL1 (jn_tq_len hcn.2 htq)) (by omega) ?_ rfl
                  rintro r1 σ2 ⟨rfl, hf2, L2, hL2, hso2, hme2⟩
                  have hfy2 := jx_fy_tr hfy1 (jn_f95_y hf2)
                  have htq2 := jn_tq_add hP0 hcb h2 i0 i1 j0 (by omega) hop hbe htq hso2 hme2
                  show jw_W (js_S n) _ md_91 73 [some (.inr (.inr 92)), some (.inr (.inr 57)), some (.inr (.inr (o + 1))), some (.inl i), some (.inl j), some (.inr (.inl (jm_mw σ0 0 j i))), none, some (.inr (.inl (jm_mw σ0 1 j i))), none] [] σ2 _
                  refine jw_W_n 2 (i' := 17) (ls' := [some (.inr (.inr 92)), some (.inr (.inr 57)), some (.inr (.inr (o + 1))), some (.inl i), some (.inl (j + 1)), some (.inr (.inl (jm_mw σ0 0 j i))), none, some (.inr (.inl (jm_mw σ0 1 j i))), none]) (st' := []) rfl ?_
                  exact ih (by omega) hfy2 hL2 htq2 (jn_cw_s (fun y hy => (hme2 y).mpr (.inl hy)) hcw (fun _ _ => (hme2 _).mpr (.inr rfl)))
              · rw [hs]
                rw [jm_mw_me hme1, jm_mw_me hme1, e561] at hbe
                show jw_W (js_S n) _ md_91 64 [some (.inr (.inr 92)), some (.inr (.inr 57)), some (.inr (.inr (o + 1))), some (.inl i), some (.inl j), some (.inr (.inl (jm_mw σ0 0 j i))), none, some (.inr (.inl (jm_mw σ0 1 j i))), none] [.inl 0] σ1 _
                refine jw_W_if rfl (by unfold jw_rg; omega) (fun hc13 => ?_) (fun hc13 => ?_)
                · clear hc13
                  refine jw_W_n 2 (i' := 17) (ls' := [some (.inr (.inr 92)), some (.inr (.inr 57)), some (.inr (.inr (o + 1))), some (.inl i), some (.inl (j + 1)), some (.inr (.inl (jm_mw σ0 0 j i))), none, some (.inr (.inl (jm_mw σ0 1 j i))), none]) (st' := []) rfl ?_
                  exact ih (by omega) hfy1 hL1 htq (jn_cw_s (fun y hy => hy) hcw (fun _ hh => absurd hh hbe))
                · exact absurd hc13 (show ¬ ¬ ((0 : Int) = 0) by omega)
theorem jx_ft_i {n : Nat} {σ0 : jw_H} {D : Nat} (hD : 3 ≤ D) {o : Nat} {C : List (ge_R × Int)} (hK0 : jx_K n o C σ0) (h2 : σ0 103 4 = 2) : ∀ (f : Nat) {σ : jw_H} {i : Int} {L : List (Int × Int)} {v4 v5 v7 : Option jw_V}, 0 ≤ i → i + f = σ0 103 56 → jx_fy σ0 σ → jn_tw 95 96 92 2 σ L → jn_tq σ0 L → jn_cw σ0 L i (i + 1) → jw_W (js_S n) D md_91 9 [some (.inr (.inr 92)), some (.inr (.inr 57)), some (.inr (.inr (o + 1))), some (.inl i), v4, v5, none, v7, none] [] σ (fun r σ' => r = none ∧ jx_fy σ0 σ' ∧ ∃ L, jn_tw 95 96 92 2 σ' L ∧ jn_tq σ0 L ∧ jn_TL σ0 L)
  | f, σ, i, L, v4, v5, v7, i0, hk, hfy, hL, htq, hcw => by
    have ih : ∀ {σ' : jw_H} {L' : List (Int × Int)} {v4' v5' v7' : Option jw_V}, i < σ0 103 56 → jx_fy σ0 σ' → jn_tw 95 96 92 2 σ' L' → jn_tq σ0 L' → jn_cw σ0 L' (i + 1) (i + 1 + 1) → jw_W (js_S n) D md_91 9 [some (.inr (.inr 92)), some (.inr (.inr 57)), some (.inr (.inr (o + 1))), some (.inl (i + 1)), v4', v5', none, v7', none] [] σ' (fun r σ' => r = none ∧ jx_fy σ0 σ' ∧ ∃ L, jn_tw 95 96 92 2 σ' L ∧ jn_tq σ0 L ∧ jn_TL σ0 L) := by
      intro σ' L' v4' v5' v7' h1 h3 h4 h5 h6
      match f, hk with
      | 0, hk => omega
      | f + 1, hk => exact jx_ft_i hD hK0 h2 f (by omega) (by omega) h3 h4 h5 h6
    have hI0 := jx_I0_x hK0.1
    have hP0 := hI0.2.2.2.2.2.2.2.1
    have hcb := hI0.2.2.2.2.2.2.2.2.1
    have hcn := hcb.1
    have hp := hI0.2.2.1
    have hK := jx_K_y hfy hK0
    have hI := hK.1
    have hIx := jx_I0_x hI
    have hfo := hIx.2.1
    have hto := hIx.1
    have hme := jx_fx_me (jx_fy_x hfy)
    have e56 : σ 57 0 = σ0 103 56 := by rw [hIx.2.2.2.2.2.2.2.2.2.1, hme 103 (by omega)]
    have e561 : σ 103 56 = σ0 103 56 := by rw [hme 103 (by omega)]
    have e4 : σ 103 4 = 2 := by rw [hme 103 (by omega)]; exact h2
    refine jw_W_n 2 (i' := 11) (ls' := [some (.inr (.inr 92)), some (.inr (.inr 57)), some (.inr (.inr (o + 1))), some (.inl i), v4, v5, none, v7, none]) (st' := [.inr (.inr 57), .inl i]) rfl ?_
    refine jw_W_gf rfl rfl rfl ?_
    show jw_W (js_S n) _ md_91 12 [some (.inr (.inr 92)), some (.inr (.inr 57)), some (.inr (.inr (o + 1))), some (.inl i), v4, v5, none, v7, none] [.inl (σ 57 0), .inl i] σ _
    refine jw_W_ic rfl (by unfold jw_rg; omega) (by unfold jw_rg; omega) (fun hc1 => ?_) (fun hc1 => ?_)
    · have hc1 : i ≥ (σ 57 0) := hc1
      refine jw_W_re rfl ?_
      exact ⟨rfl, hfy, L, hL, htq, jn_tq_TL hcb htq (fun a b a0 ab b1 => hcw a b a0 ab b1 (by omega))⟩
    · have hc1 : ¬ (i ≥ (σ 57 0)) := hc1
      refine jw_W_n 4 (i' := 17) (ls' := [some (.inr (.inr 92)), some (.inr (.inr 57)), some (.inr (.inr (o + 1))), some (.inl i), some (.inl (i + 1)), v5, none, v7, none]) (st' := []) rfl ?_
      refine jx_ft_j hD hK0 h2 i0 (by omega) (fun {σa La va vb} ha hb hc hd => ?_) (σ0 103 56 - i - 1).toNat (by omega) (by omega) hfy hL htq hcw
      refine jw_W_n 2 (i' := 9) (ls' := [some (.inr (.inr 92)), some (.inr (.inr 57)), some (.inr (.inr (o + 1))), some (.inl (i + 1)), some (.inl (σ0 103 56)), va, none, vb, none]) (st' := []) rfl ?_
      exact ih (by omega) ha hb hc (jn_cw_row hd)
theorem jx_findTurns {n : Nat} {σ : jw_H} {o : Nat} {C : List (ge_R × Int)} (hK : jx_K n o C σ) (h2 : σ 103 4 = 2) : jw_T (js_S n) 4 91 [.inr (.inr 92), .inr (.inr 57)] σ (fun r σ' => r = none ∧ jx_fy σ σ' ∧ ∃ L, jn_tw 95 96 92 2 σ' L ∧ jn_tq σ L ∧ jn_TL σ L) := by
  refine jw_T_of (D := 3) (M := mm_91) rfl (Nat.le_of_ble_eq_true rfl) (ls0 := [some (.inr (.inr 92)), some (.inr (.inr 57)), none, none, none, none, none, none, none]) rfl ?_ (by rintro _ _ ⟨rfl, -⟩; rfl)
  have hI := hK.1
  obtain ⟨hto, hfo, hp, hP, e0, e1, e2, hPm, hcb, c0, p0, -⟩ := jx_I0_x hI
  have ho := hp.1
  have hq := hP.1
  have hw := hP.2.1
  have hq2 := hP.2.2.1
  have hcn := hcb.1
  refine jw_W_n 1 (i' := 1) (ls' := [some (.inr (.inr 92)), some (.inr (.inr 57)), none, none, none, none, none, none, none]) (st' := [.inr (.inr 57)]) rfl ?_
  refine jw_W_gf rfl rfl rfl ?_
  show jw_W (js_S n) _ md_91 2 [some (.inr (.inr 92)), some (.inr (.inr 57)), none, none, none, none, none, none, none] [.inr (.inr ((σ 57 6).toNat))] σ _
  rw [hfo]
  refine jw_W_gf rfl hp.2.1 rfl ?_
  show jw_W (js_S n) _ md_91 3 [some (.inr (.inr 92)), some (.inr (.inr 57)), none, none, none, none, none, none, none] [.inr (.inr (o + 1))] σ _
  refine jw_W_n 3 (i' := 6) (ls' := [some (.inr (.inr 92)), some (.inr (.inr 57)), some (.inr (.inr (o + 1))), none, none, none, none, none, none]) (st' := [.inl 0, .inr (.inr 92)]) rfl ?_
  refine jw_W_pf (a := 0) rfl (by omega) rfl rfl rfl rfl rfl ?_
  refine jw_W_n 2 (i' := 9) (ls' := [some (.inr (.inr 92)), some (.inr (.inr 57)), some (.inr (.inr (o + 1))), some (.inl 0), none, none, none, none, none]) (st' := []) rfl ?_
  exact jx_ft_i (D := 3) (by omega) hK h2 (σ 103 56).toNat (i := 0) (L := []) (by omega) (by omega) (jx_fy_up (jx_fy_rf σ) (by omega)) ⟨jw_up_eq _ _ _ _, fun k y hy => by cases hy⟩ ⟨List.Pairwise.nil, fun y hy => by cases hy⟩ (fun a b a0 ab b1 hab => by omega)
theorem jx_turn {n : Nat} {σ : jw_H} {o : Nat} {C : List (ge_R × Int)} (hK : jx_K n o C σ) {t : Int} (ht : jw_rg t) : jw_T (js_S n) 5 140 [.inr (.inr 13), .inl t] σ (fun r σ' => ∃ v, r = some (.inr (.inl v)) ∧ jx_fy σ σ' ∧ jn_tra σ t v) := by
  refine jw_T_of (D := 4) (M := mm_140) rfl (Nat.le_of_ble_eq_true rfl) (ls0 := [some (.inr (.inr 13)), some (.inl t), none]) rfl ?_ (by rintro _ _ ⟨_, rfl, -⟩; rfl)
  have hI := hK.1
  obtain ⟨hto, hfo, hp, hP, e0, e1, e2, hPm, hcb, c0, p0, -⟩ := jx_I0_x hI
  have ho := hp.1
  have hq := hP.1
  have hw := hP.2.1
  have hq2 := hP.2.2.1
  have hcn := hcb.1
  have rht := ht
  unfold jw_rg at rht
  refine jw_W_n 2 (i' := 2) (ls' := [some (.inr (.inr 13)), some (.inl t), none]) (st' := [.inl 200, .inl t]) rfl ?_
  refine jw_W_ic rfl (by unfold jw_rg; omega) (by unfold jw_rg; omega) (fun hc1 => ?_) (fun hc1 => ?_)
  · have hc1 : t = 200 := hc1
    refine jw_W_n 1 (i' := 11) (ls' := [some (.inr (.inr 13)), some (.inl t), none]) (st' := [.inr (.inr 13)]) rfl ?_
    refine jw_W_gf rfl rfl rfl ?_
    show jw_W (js_S n) _ md_140 12 [some (.inr (.inr 13)), some (.inl t), none] [.inr (.inr ((σ 13 2).toNat))] σ _
    rw [hto]
    refine jw_W_gf rfl hp.2.1 rfl ?_
    show jw_W (js_S n) _ md_140 13 [some (.inr (.inr 13)), some (.inl t), none] [.inl (σ o 1)] σ _
    refine jw_W_n 1 (i' := 14) (ls' := [some (.inr (.inr 13)), some (.inl t), none]) (st' := [.inl 2, .inl (σ o 1)]) rfl ?_
    refine jw_W_ic rfl (by unfold jw_rg; omega) (by unfold jw_rg; omega) (fun hc2 => ?_) (fun hc2 => ?_)
    · have hc2 : (σ o 1) = 2 := hc2
      refine jw_W_n 1 (i' := 18) (ls' := [some (.inr (.inr 13)), some (.inl t), none]) (st' := [.inr (.inr 13)]) rfl ?_
      refine jw_W_gf rfl rfl rfl ?_
      show jw_W (js_S n) _ md_140 19 [some (.inr (.inr 13)), some (.inl t), none] [.inr (.inr 92)] σ _
      refine jw_W_n 1 (i' := 20) (ls' := [some (.inr (.inr 13)), some (.inl t), none]) (st' := [.inr (.inr 13), .inr (.inr 92)]) rfl ?_
      refine jw_W_gf rfl rfl rfl ?_
      show jw_W (js_S n) _ md_140 21 [some (.inr (.inr 13)), some (.inl t), none] [.inr (.inr 57), .inr (.inr 92)] σ _
      refine jw_W_call (as := [.inr (.inr 92), .inr (.inr 57)]) (rest := []) rfl rfl rfl rfl (Nat.le_of_ble_eq_true rfl) (.inr rfl) (jx_findTurns hK (by omega)) (by omega) ?_ rfl
      rintro r1 σ1 ⟨rfl, hfy, L, hL, htq, hTL⟩
      have hlen := jn_tq_len hcn.2 htq
      have hcnt := hL.1
      show jw_W (js_S n) _ md_140 22 [some (.inr (.inr 13)), some (.inl t), none] [] σ1 _
      refine jw_W_n 2 (i' := 24) (ls' := [some (.inr (.inr 13)), some (.inl t), none]) (st' := [.inl 200, .inl t]) rfl ?_
      refine jw_W_ic rfl (by unfold jw_rg; omega) (by unfold jw_rg; omega) (fun hc3 => ?_) (fun hc3 => ?_)
      · have hc3 : t ≠ 200 := hc3
        refine jw_W_n 2 (i' := 32) (ls' := [some (.inr (.inr 13)), some (.inl t), none]) (st' := [.inl 2, .inl t]) rfl ?_
        refine jw_W_idiv rfl (by unfold jw_rg; omega) (by omega) ?_
        rw [jn_dv (by omega) (by omega) (by omega) (by omega)]
        refine jw_W_n 3 (i' := 36) (ls' := [some (.inr (.inr 13)), some (.inl t), some (.inl (t / 2))]) (st' := [.inr (.inr 13), .inl (t / 2)]) rfl ?_
        refine jw_W_gf rfl rfl rfl ?_
        show jw_W (js_S n) _ md_140 37 [some (.inr (.inr 13)), some (.inl t), some (.inl (t / 2))] [.inr (.inr 92), .inl (t / 2)] σ1 _
        refine jw_W_gf rfl rfl rfl ?_
        show jw_W (js_S n) _ md_140 38 [some (.inr (.inr 13)), some (.inl t), some (.inl (t / 2))] [.inl (σ1 92 2), .inl (t / 2)] σ1 _
        refine jw_W_ic rfl (by unfold jw_rg; omega) (by unfold jw_rg; omega) (fun hc4 => ?_) (fun hc4 => ?_)
        · have hc4 : (t / 2) < (σ1 92 2) := hc4
          refine jw_W_n 2 (i' := 43) (ls' := [some (.inr (.inr 13)), some (.inl t), some (.inl (t / 2))]) (st' := [.inl 2, .inl t]) rfl ?_
          refine jw_W_irem rfl (by unfold jw_rg; omega) (by omega) ?_
          rw [jm_rem (by omega) (by omega) (by omega) (by omega)]
          obtain ⟨y, hy, hym, hy1, hy2⟩ := jn_tw_at hL (k := t / 2) (by omega) (by omega)
          refine jw_W_if rfl (by unfold jw_rg; omega) (fun hc5 => ?_) (fun hc5 => ?_)
          · have hc5 : (t % 2) ≠ 0 := hc5
            refine jw_W_n 1 (i' := 52) (ls' := [some (.inr (.inr 13)), some (.inl t), some (.inl (t / 2))]) (st' := [.inr (.inr 13)]) rfl ?_
            refine jw_W_gf rfl rfl rfl ?_
            show jw_W (js_S n) _ md_140 53 [some (.inr (.inr 13)), some (.inl t), some (.inl (t / 2))] [.inr (.inr 92)] σ1 _
            refine jw_W_gf rfl rfl rfl ?_
            show jw_W (js_S n) _ md_140 54 [some (.inr (.inr 13)), some (.inl t), some (.inl (t / 2))] [.inr (.inr 96)] σ1 _
            refine jw_W_n 1 (i' := 55) (ls' := [some (.inr (.inr 13)), some (.inl t), some (.inl (t / 2))]) (st' := [.inl (t / 2), .inr (.inr 96)]) rfl ?_
            refine jw_W_la rfl rfl (by omega) (by omega) (by omega) ?_
            show jw_W (js_S n) _ md_140 56 [some (.inr (.inr 13)), some (.inl t), some (.inl (t / 2))] [.inr (.inl (σ1 96 (t / 2)))] σ1 _
            rw [hy2]
            refine jw_W_lr rfl ?_
            exact ⟨_, rfl, hfy, .inr ⟨by omega, .inr ⟨by omega, _, hTL, .inr (.inr ⟨by omega, y, hy, by rw [if_neg (by omega)]⟩)⟩⟩⟩
          · have hc5 : (t % 2) = 0 := Classical.not_not.mp hc5
            refine jw_W_n 1 (i' := 46) (ls' := [some (.inr (.inr 13)), some (.inl t), some (.inl (t / 2))]) (st' := [.inr (.inr 13)]) rfl ?_
            refine jw_W_gf rfl rfl rfl ?_
            show jw_W (js_S n) _ md_140 47 [some (.inr (.inr 13)), some (.inl t), some (.inl (t / 2))] [.inr (.inr 92)] σ1 _
            refine jw_W_gf rfl rfl rfl ?_
            show jw_W (js_S n) _ md_140 48 [some (.inr (.inr 13)), some (.inl t), some (.inl (t / 2))] [.inr (.inr 95)] σ1 _
            refine jw_W_n 1 (i' := 49) (ls' := [some (.inr (.inr 13)), some (.inl t), some (.inl (t / 2))]) (st' := [.inl (t / 2), .inr (.inr 95)]) rfl ?_
            refine jw_W_la rfl rfl (by omega) (by omega) (by omega) ?_
            show jw_W (js_S n) _ md_140 50 [some (.inr (.inr 13)), some (.inl t), some (.inl (t / 2))] [.inr (.inl (σ1 95 (t / 2)))] σ1 _
            rw [hy1]
            refine jw_W_n 1 (i' := 56) (ls' := [some (.inr (.inr 13)), some (.inl t), some (.inl (t / 2))]) (st' := [.inr (.inl y.1)]) rfl ?_
            refine jw_W_lr rfl ?_
            exact ⟨_, rfl, hfy, .inr ⟨by omega, .inr ⟨by omega, _, hTL, .inr (.inr ⟨by omega, y, hy, by rw [if_pos (by omega)]⟩)⟩⟩⟩
        · have hc4 : ¬ ((t / 2) < (σ1 92 2)) := hc4
          refine jw_W_ld2 (z := (-2)) rfl rfl ?_
          refine jw_W_lr rfl ?_
          exact ⟨_, rfl, hfy, .inr ⟨by omega, .inr ⟨by omega, _, hTL, .inr (.inl ⟨by omega, by omega, rfl⟩)⟩⟩⟩
      · have hc3 : t = 200 := Classical.not_not.mp hc3
        refine jw_W_n 1 (i' := 26) (ls' := [some (.inr (.inr 13)), some (.inl t), none]) (st' := [.inr (.inr 13)]) rfl ?_
        refine jw_W_gf rfl rfl rfl ?_
        show jw_W (js_S n) _ md_140 27 [some (.inr (.inr 13)), some (.inl t), none] [.inr (.inr 92)] σ1 _
        refine jw_W_gf rfl rfl rfl ?_
        show jw_W (js_S n) _ md_140 28 [some (.inr (.inr 13)), some (.inl t), none] [.inl (σ1 92 2)] σ1 _
        refine jw_W_i2l rfl (by unfold jw_rg; omega) ?_
        refine jw_W_lr rfl ?_
        exact ⟨_, rfl, hfy, .inr ⟨by omega, .inr ⟨by omega, _, hTL, .inl ⟨by omega, hcnt⟩⟩⟩⟩
    · have hc2 : ¬ ((σ o 1) = 2) := hc2
      refine jw_W_ld2 (z := (-3)) rfl rfl ?_
      refine jw_W_lr rfl ?_
      exact ⟨_, rfl, jx_fy_rf σ, .inr ⟨by omega, .inl ⟨rfl, by omega⟩⟩⟩
  · have hc1 : ¬ (t = 200) := hc1
    refine jw_W_n 1 (i' := 4) (ls' := [some (.inr (.inr 13)), some (.inl t), none]) (st' := [.inl t]) rfl ?_
    refine jw_W_if rfl (by unfold jw_rg; omega) (fun hc6 => ?_) (fun hc6 => ?_)
    · have hc6 : t < 0 := hc6
      refine jw_W_ld2 (z := (-1)) rfl rfl ?_
      refine jw_W_lr rfl ?_
      exact ⟨_, rfl, jx_fy_rf σ, .inl ⟨rfl, by omega⟩⟩
    · have hc6 : ¬ (t < 0) := hc6
      refine jw_W_n 2 (i' := 7) (ls' := [some (.inr (.inr 13)), some (.inl t), none]) (st' := [.inl 100, .inl t]) rfl ?_
      refine jw_W_ic rfl (by unfold jw_rg; omega) (by unfold jw_rg; omega) (fun hc7 => ?_) (fun hc7 => ?_)
      · have hc7 : t < 100 := hc7
        refine jw_W_n 1 (i' := 11) (ls' := [some (.inr (.inr 13)), some (.inl t), none]) (st' := [.inr (.inr 13)]) rfl ?_
        refine jw_W_gf rfl rfl rfl ?_
        show jw_W (js_S n) _ md_140 12 [some (.inr (.inr 13)), some (.inl t), none] [.inr (.inr ((σ 13 2).toNat))] σ _
        rw [hto]
        refine jw_W_gf rfl hp.2.1 rfl ?_
        show jw_W (js_S n) _ md_140 13 [some (.inr (.inr 13)), some (.inl t), none] [.inl (σ o 1)] σ _
        refine jw_W_n 1 (i' := 14) (ls' := [some (.inr (.inr 13)), some (.inl t), none]) (st' := [.inl 2, .inl (σ o 1)]) rfl ?_
        refine jw_W_ic rfl (by unfold jw_rg; omega) (by unfold jw_rg; omega) (fun hc8 => ?_) (fun hc8 => ?_)
        · have hc8 : (σ o 1) = 2 := hc8
          refine jw_W_n 1 (i' := 18) (ls' := [some (.inr (.inr 13)), some (.inl t), none]) (st' := [.inr (.inr 13)]) rfl ?_
          refine jw_W_gf rfl rfl rfl ?_
          show jw_W (js_S n) _ md_140 19 [some (.inr (.inr 13)), some (.inl t), none] [.inr (.inr 92)] σ _
          refine jw_W_n 1 (i' := 20) (ls' := [some (.inr (.inr 13)), some (.inl t), none]) (st' := [.inr (.inr 13), .inr (.inr 92)]) rfl ?_
          refine jw_W_gf rfl rfl rfl ?_
          show jw_W (js_S n) _ md_140 21 [some (.inr (.inr 13)), some (.inl t), none] [.inr (.inr 57), .inr (.inr 92)] σ _
          refine jw_W_call (as := [.inr (.inr 92), .inr (.inr 57)]) (rest := []) rfl rfl rfl rfl (Nat.le_of_ble_eq_true rfl) (.inr rfl) (jx_findTurns hK (by omega)) (by omega) ?_ rfl
          rintro r1 σ1 ⟨rfl, hfy, L, hL, htq, hTL⟩
          have hlen := jn_tq_len hcn.2 htq
          have hcnt := hL.1
          show jw_W (js_S n) _ md_140 22 [some (.inr (.inr 13)), some (.inl t), none] [] σ1 _
          refine jw_W_n 2 (i' := 24) (ls' := [some (.inr (.inr 13)), some (.inl t), none]) (st' := [.inl 200, .inl t]) rfl ?_
          refine jw_W_ic rfl (by unfold jw_rg; omega) (by unfold jw_rg; omega) (fun hc9 => ?_) (fun hc9 => ?_)
          · have hc9 : t ≠ 200 := hc9
            refine jw_W_n 2 (i' := 32) (ls' := [some (.inr (.inr 13)), some (.inl t), none]) (st' := [.inl 2, .inl t]) rfl ?_
            refine jw_W_idiv rfl (by unfold jw_rg; omega) (by omega) ?_
            rw [jn_dv (by omega) (by omega) (by omega) (by omega)]
            refine jw_W_n 3 (i' := 36) (ls' := [some (.inr (.inr 13)), some (.inl t), some (.inl (t / 2))]) (st' := [.inr (.inr 13), .inl (t / 2)]) rfl ?_
            refine jw_W_gf rfl rfl rfl ?_
            show jw_W (js_S n) _ md_140 37 [some (.inr (.inr 13)), some (.inl t), some (.inl (t / 2))] [.inr (.inr 92), .inl (t / 2)] σ1 _
            refine jw_W_gf rfl rfl rfl ?_
            show jw_W (js_S n) _ md_140 38 [some (.inr (.inr 13)), some (.inl t), some (.inl (t / 2))] [.inl (σ1 92 2), .inl (t / 2)] σ1 _
            refine jw_W_ic rfl (by unfold jw_rg; omega) (by unfold jw_rg; omega) (fun hc10 => ?_) (fun hc10 => ?_)
            · have hc10 : (t / 2) < (σ1 92 2) := hc10
              refine jw_W_n 2 (i' := 43) (ls' := [some (.inr (.inr 13)), some (.inl t), some (.inl (t / 2))]) (st' := [.inl 2, .inl t]) rfl ?_
              refine jw_W_irem rfl (by unfold jw_rg; omega) (by omega) ?_
              rw [jm_rem (by omega) (by omega) (by omega) (by omega)]
              obtain ⟨y, hy, hym, hy1, hy2⟩ := jn_tw_at hL (k := t / 2) (by omega) (by omega)
              refine jw_W_if rfl (by unfold jw_rg; omega) (fun hc11 => ?_) (fun hc11 => ?_)
              · have hc11 : (t % 2) ≠ 0 := hc11
                refine jw_W_n 1 (i' := 52) (ls' := [some (.inr (.inr 13)), some (.inl t), some (.inl (t / 2))]) (st' := [.inr (.inr 13)]) rfl ?_
                refine jw_W_gf rfl rfl rfl ?_
                show jw_W (js_S n) _ md_140 53 [some (.inr (.inr 13)), some (.inl t), some (.inl (t / 2))] [.inr (.inr 92)] σ1 _
                refine jw_W_gf rfl rfl rfl ?_
                show jw_W (js_S n) _ md_140 54 [some (.inr (.inr 13)), some (.inl t), some (.inl (t / 2))] [.inr (.inr 96)] σ1 _
                refine jw_W_n 1 (i' := 55) (ls' := [some (.inr (.inr 13)), some (.inl t), some (.inl (t / 2))]) (st' := [.inl (t / 2), .inr (.inr 96)]) rfl ?_
                refine jw_W_la rfl rfl (by omega) (by omega) (by omega) ?_
                show jw_W (js_S n) _ md_140 56 [some (.inr (.inr 13)), some (.inl t), some (.inl (t / 2))] [.inr (.inl (σ1 96 (t / 2)))] σ1 _
                rw [hy2]
                refine jw_W_lr rfl ?_
                exact ⟨_, rfl, hfy, .inr ⟨by omega, .inr ⟨by omega, _, hTL, .inr (.inr ⟨by omega, y, hy, by rw [if_neg (by omega)]⟩)⟩⟩⟩
              · have hc11 : (t % 2) = 0 := Classical.not_not.mp hc11
                refine jw_W_n 1 (i' := 46) (ls' := [some (.inr (.inr 13)), some (.inl t), some (.inl (t / 2))]) (st' := [.inr (.inr 13)]) rfl ?_
                refine jw_W_gf rfl rfl rfl ?_
                show jw_W (js_S n) _ md_140 47 [some (.inr (.inr 13)), some (.inl t), some (.inl (t / 2))] [.inr (.inr 92)] σ1 _
                refine jw_W_gf rfl rfl rfl ?_
                show jw_W (js_S n) _ md_140 48 [some (.inr (.inr 13)), some (.inl t), some (.inl (t / 2))] [.inr (.inr 95)] σ1 _
                refine jw_W_n 1 (i' := 49) (ls' := [some (.inr (.inr 13)), some (.inl t), some (.inl (t / 2))]) (st' := [.inl (t / 2), .inr (.inr 95)]) rfl ?_
                refine jw_W_la rfl rfl (by omega) (by omega) (by omega) ?_
                show jw_W (js_S n) _ md_140 50 [some (.inr (.inr 13)), some (.inl t), some (.inl (t / 2))] [.inr (.inl (σ1 95 (t / 2)))] σ1 _
                rw [hy1]
                refine jw_W_n 1 (i' := 56) (ls' := [some (.inr (.inr 13)), some (.inl t), some (.inl (t / 2))]) (st' := [.inr (.inl y.1)]) rfl ?_
                refine jw_W_lr rfl ?_
                exact ⟨_, rfl, hfy, .inr ⟨by omega, .inr ⟨by omega, _, hTL, .inr (.inr ⟨by omega, y, hy, by rw [if_pos (by omega)]⟩)⟩⟩⟩
            · have hc10 : ¬ ((t / 2) < (σ1 92 2)) := hc10
              refine jw_W_ld2 (z := (-2)) rfl rfl ?_
              refine jw_W_lr rfl ?_
              exact ⟨_, rfl, hfy, .inr ⟨by omega, .inr ⟨by omega, _, hTL, .inr (.inl ⟨by omega, by omega, rfl⟩)⟩⟩⟩
          · have hc9 : t = 200 := Classical.not_not.mp hc9
            refine jw_W_n 1 (i' := 26) (ls' := [some (.inr (.inr 13)), some (.inl t), none]) (st' := [.inr (.inr 13)]) rfl ?_
            refine jw_W_gf rfl rfl rfl ?_
            show jw_W (js_S n) _ md_140 27 [some (.inr (.inr 13)), some (.inl t), none] [.inr (.inr 92)] σ1 _
            refine jw_W_gf rfl rfl rfl ?_
            show jw_W (js_S n) _ md_140 28 [some (.inr (.inr 13)), some (.inl t), none] [.inl (σ1 92 2)] σ1 _
            refine jw_W_i2l rfl (by unfold jw_rg; omega) ?_
            refine jw_W_lr rfl ?_
            exact ⟨_, rfl, hfy, .inr ⟨by omega, .inr ⟨by omega, _, hTL, .inl ⟨by omega, hcnt⟩⟩⟩⟩
        · have hc8 : ¬ ((σ o 1) = 2) := hc8
          refine jw_W_ld2 (z := (-3)) rfl rfl ?_
          refine jw_W_lr rfl ?_
          exact ⟨_, rfl, jx_fy_rf σ, .inr ⟨by omega, .inl ⟨rfl, by omega⟩⟩⟩
      · have hc7 : ¬ (t < 100) := hc7
        refine jw_W_ld2 (z := (-1)) rfl rfl ?_
        refine jw_W_lr rfl ?_
        exact ⟨_, rfl, jx_fy_rf σ, .inl ⟨rfl, by omega⟩⟩

/-! ===== regret, the code ===== -/
/-- the reference's regret: all else is as it was -/
def jm_f71 (σ σ' : jw_H) : Prop := (∀ o, o ≠ 103 → σ' o = σ o) ∧ ∀ j, (j < 70 ∨ 71 < j) → σ' 103 j = σ 103 j
theorem jm_f71_rf (σ : jw_H) : jm_f71 σ σ := ⟨fun _ _ => rfl, fun _ _ => rfl⟩
theorem jm_f71_tr {σ σ1 σ2 : jw_H} (a : jm_f71 σ σ1) (b : jm_f71 σ1 σ2) : jm_f71 σ σ2 := ⟨fun o h => (b.1 o h).trans (a.1 o h), fun j h => (b.2 j h).trans (a.2 j h)⟩
theorem jm_f71_up {σ σ' : jw_H} {j v : Int} (h : jm_f71 σ σ') (hj : 70 ≤ j ∧ j ≤ 71) : jm_f71 σ (jw_up σ' 103 j v) := ⟨fun o ho => by rw [jw_up_out _ _ _ ho]; exact h.1 o ho, fun j' hj' => by rw [jw_up_ne _ (by omega)]; exact h.2 j' hj'⟩
theorem jm_f71_z {σ σ' : jw_H} {C : List (ge_R × Int)} (hKN : jm_KN σ C) (h : jm_f71 σ σ') : jm_fz σ σ' := by
  refine ⟨fun o _ h2 => h.1 o h2, fun j hj => h.2 j (by omega), ?_⟩
  unfold jm_Ns
  rw [h.1 131 (by omega)]
  exact hKN.1.2.2.2.2.1
theorem jm_f71_ct {σ σ' : jw_H} (h : jm_f71 σ σ') (i : Int) : jm_ct σ' i = jm_ct σ i := by
  unfold jm_ct
  rw [h.1 132 (by omega), h.1 133 (by omega), h.1 134 (by omega), h.1 135 (by omega)]
theorem jm_f71_mw {σ σ' : jw_H} (h : jm_f71 σ σ') (w i j : Int) : jm_mw σ' w i j = jm_mw σ w i j := by
  unfold jm_mw jm_W
  rw [jm_f71_ct h, jm_f71_ct h, h.1 104 (by omega), h.1 135 (by omega)]
theorem jm_f71_mst {σ σ' : jw_H} (h : jm_f71 σ σ') {w m b : Int} (hm : jm_mst σ' w m b) : jm_mst σ w m b := by
  unfold jm_mst jm_wl jm_W at *
  simp only [jm_f71_ct h, h.1 104 (by omega), h.1 135 (by omega)] at hm
  exact hm
theorem jm_lrg_loop {n : Nat} {σ0 : jw_H} {C : List (ge_R × Int)} (hKN0 : jm_KN σ0 C) {i : Int} (i0 : 0 ≤ i) (i1 : i < σ0 103 56) : ∀ (f : Nat) {σ : jw_H} {w : Int} {u3 u4 u6 : Option jw_V}, 0 ≤ w → w + f = σ0 103 4 → jm_f71 σ0 σ → (σ 103 70, σ 103 71) = jm_rg σ0 i w.toNat → jw_W (js_S n) 3 md_317 8 [some (.inr (.inr 103)), some (.inl i), some (.inl w), u3, u4, none, u6, none] [] σ (fun r σ' => r = none ∧ jm_f71 σ0 σ' ∧ (σ' 103 70, σ' 103 71) = jm_rgt σ0 i)
  | f, σ, w, u3, u4, u6, w0, hk, HZ, HS => by
    have ih : ∀ {σ' : jw_H} {u3' u4' u6' : Option jw_V}, w < σ0 103 4 → jm_f71 σ0 σ' → (σ' 103 70, σ' 103 71) = jm_rg σ0 i (w + 1).toNat → jw_W (js_S n) 3 md_317 8 [some (.inr (.inr 103)), some (.inl i), some (.inl (w + 1)), u3', u4', none, u6', none] [] σ' (fun r σ' => r = none ∧ jm_f71 σ0 σ' ∧ (σ' 103 70, σ' 103 71) = jm_rgt σ0 i) := by
      intro σ' u3' u4' u6' h1 h2 h3
      match f, hk with
      | 0, hk => omega
      | f + 1, hk => exact jm_lrg_loop hKN0 i0 i1 f (by omega) (by omega) h2 h3
    have hP0 := hKN0.1.1
    have hcb0 := (jm_kw_cbd hKN0.1).2 σ0 (jm_fk_rf σ0)
    have hKN := jm_KN_fz (jm_f71_z hKN0 HZ) hKN0
    have e4 : σ 103 4 = σ0 103 4 := HZ.2 4 (by omega)
    have e56 : σ 103 56 = σ0 103 56 := HZ.2 56 (by omega)
    have hrb := (jm_rg_ok hP0 hcb0 i0 i1 w0 (show w ≤ σ0 103 4 by omega)).1
    rw [← HS] at hrb
    unfold jm_rb at hrb
    dsimp only at hrb
    have hcb := (jm_kw_cbd hKN.1).2 σ (jm_fk_rf σ)
    have hcn := hcb.1
    have hPm := hKN.1.1
    have hqq := hPm.1
    have hww := hPm.2.1
    have hkk := hPm.2.2.1
    have hg57 := hKN.2.2.1.1
    have hg58 := hKN.2.2.2.1.1
    refine jw_W_n 2 (i' := 10) (ls' := [some (.inr (.inr 103)), some (.inl i), some (.inl w), u3, u4, none, u6, none]) (st' := [.inr (.inr 103), .inl w]) rfl ?_
    refine jw_W_gf rfl rfl rfl ?_
    show jw_W (js_S n) _ md_317 11 [some (.inr (.inr 103)), some (.inl i), some (.inl w), u3, u4, none, u6, none] [.inl (σ 103 4), .inl w] σ _
    refine jw_W_ic rfl (by unfold jw_rg; omega) (by unfold jw_rg; omega) (fun hc1 => ?_) (fun hc1 => ?_)
    · have hc1 : w ≥ (σ 103 4) := hc1
      refine jw_W_re rfl ?_
      have hkl : w = σ0 103 4 := by omega
      subst hkl
      exact ⟨rfl, HZ, HS⟩
    · have hc1 : ¬ (w ≥ (σ 103 4)) := hc1
      refine jw_W_n 2 (i' := 14) (ls' := [some (.inr (.inr 103)), some (.inl i), some (.inl w), u3, u4, none, u6, none]) (st' := [.inl w, .inr (.inr 103)]) rfl ?_
      refine jw_W_call (as := [.inr (.inr 103), .inl w]) (rest := []) rfl rfl rfl rfl (Nat.le_of_ble_eq_true rfl) (.inr rfl) (jm_mostOf hPm hcb (by omega) w0 (by omega)) (by omega) ?_ rfl
      rintro r1 σz ⟨b, rfl, hs, hb⟩
      rw [hs]
      rw [e56] at hb
      have hb0 := jm_f71_mst HZ hb
      have hb1 := hb0.1
      obtain ⟨bd1, bd2⟩ := jm_rgd_bd hP0 hcb0 i0 i1 w0 (show w < σ0 103 4 by omega) hb0
      have edd : jm_mw σ w b i = jm_rgd σ0 i w := by rw [jm_f71_mw HZ]; unfold jm_rgd; rw [jm_bst_eq hb0]
      have ell : σ 135 b * σ 135 i = jm_rgl σ0 i w := by rw [HZ.1 135 (by omega)]; unfold jm_rgl; rw [jm_bst_eq hb0]
      show jw_W (js_S n) _ md_317 15 [some (.inr (.inr 103)), some (.inl i), some (.inl w), u3, u4, none, u6, none] [.inl b] σ _
      refine jw_W_n 5 (i' := 20) (ls' := [some (.inr (.inr 103)), some (.inl i), some (.inl w), some (.inl b), u4, none, u6, none]) (st' := [.inl i, .inl b, .inl w, .inr (.inr 103)]) rfl ?_
      refine jw_W_call (as := [.inr (.inr 103), .inl w, .inl b, .inl i]) (rest := []) rfl rfl rfl rfl (Nat.le_of_ble_eq_true rfl) (.inr rfl) (jm_moreOf hKN w0 (by omega) (by omega) (by omega) i0 (by omega)) (by omega) ?_ rfl
      rintro r1 σz ⟨rfl, hs⟩
      rw [hs, edd]
      show jw_W (js_S n) _ md_317 21 [some (.inr (.inr 103)), some (.inl i), some (.inl w), some (.inl b), u4, none, u6, none] [.inr (.inl (jm_rgd σ0 i w))] σ _
      refine jw_W_n 2 (i' := 23) (ls' := [some (.inr (.inr 103)), some (.inl i), some (.inl w), some (.inl b), some (.inr (.inl (jm_rgd σ0 i w))), none, u6, none]) (st' := [.inr (.inr 103)]) rfl ?_
      refine jw_W_gf rfl rfl rfl ?_
      show jw_W (js_S n) _ md_317 24 [some (.inr (.inr 103)), some (.inl i), some (.inl w), some (.inl b), some (.inr (.inl (jm_rgd σ0 i w))), none, u6, none] [.inr (.inr 135)] σ _
      refine jw_W_n 1 (i' := 25) (ls' := [some (.inr (.inr 103)), some (.inl i), some (.inl w), some (.inl b), some (.inr (.inl (jm_rgd σ0 i w))), none, u6, none]) (st' := [.inl b, .inr (.inr 135)]) rfl ?_
      refine jw_W_la rfl rfl (by omega) (by omega) (by omega) ?_
      show jw_W (js_S n) _ md_317 26 [some (.inr (.inr 103)), some (.inl i), some (.inl w), some (.inl b), some (.inr (.inl (jm_rgd σ0 i w))), none, u6, none] [.inr (.inl (σ 135 b))] σ _
      refine jw_W_n 1 (i' := 27) (ls' := [some (.inr (.inr 103)), some (.inl i), some (.inl w), some (.inl b), some (.inr (.inl (jm_rgd σ0 i w))), none, u6, none]) (st' := [.inr (.inr 103), .inr (.inl (σ 135 b))]) rfl ?_
      refine jw_W_gf rfl rfl rfl ?_
      show jw_W (js_S n) _ md_317 28 [some (.inr (.inr 103)), some (.inl i), some (.inl w), some (.inl b), some (.inr (.inl (jm_rgd σ0 i w))), none, u6, none] [.inr (.inr 135), .inr (.inl (σ 135 b))] σ _
      refine jw_W_n 1 (i' := 29) (ls' := [some (.inr (.inr 103)), some (.inl i), some (.inl w), some (.inl b), some (.inr (.inl (jm_rgd σ0 i w))), none, u6, none]) (st' := [.inl i, .inr (.inr 135), .inr (.inl (σ 135 b))]) rfl ?_
      refine jw_W_la rfl rfl (by omega) (by omega) (by omega) ?_
      show jw_W (js_S n) _ md_317 30 [some (.inr (.inr 103)), some (.inl i), some (.inl w), some (.inl b), some (.inr (.inl (jm_rgd σ0 i w))), none, u6, none] [.inr (.inl (σ 135 i)), .inr (.inl (σ 135 b))] σ _
      refine jw_W_n 1 (i' := 31) (ls' := [some (.inr (.inr 103)), some (.inl i), some (.inl w), some (.inl b), some (.inr (.inl (jm_rgd σ0 i w))), none, u6, none]) (st' := [.inr (.inl ((σ 135 b) * (σ 135 i)))]) rfl ?_
      rw [ell]
      have m1 := jx_mulb (x := jm_rgd σ0 i w) (y := σ 103 71) (A := 9000000) (B := 9000000) (by omega) (by omega) (by omega)
      have m2 := jx_mulb (x := σ 103 70) (y := jm_rgl σ0 i w) (A := 9000000) (B := 9000000) (by omega) (by omega) (by omega)
      refine jw_W_n 3 (i' := 34) (ls' := [some (.inr (.inr 103)), some (.inl i), some (.inl w), some (.inl b), some (.inr (.inl (jm_rgd σ0 i w))), none, some (.inr (.inl (jm_rgl σ0 i w))), none]) (st' := [.inr (.inr 103), .inr (.inl (jm_rgd σ0 i w))]) rfl ?_
      refine jw_W_gf rfl rfl rfl ?_
      show jw_W (js_S n) _ md_317 35 [some (.inr (.inr 103)), some (.inl i), some (.inl w), some (.inl b), some (.inr (.inl (jm_rgd σ0 i w))), none, some (.inr (.inl (jm_rgl σ0 i w))), none] [.inr (.inl (σ 103 71)), .inr (.inl (jm_rgd σ0 i w))] σ _
      refine jw_W_n 2 (i' := 37) (ls' := [some (.inr (.inr 103)), some (.inl i), some (.inl w), some (.inl b), some (.inr (.inl (jm_rgd σ0 i w))), none, some (.inr (.inl (jm_rgl σ0 i w))), none]) (st' := [.inr (.inr 103), .inr (.inl ((jm_rgd σ0 i w) * (σ 103 71)))]) rfl ?_
      refine jw_W_gf rfl rfl rfl ?_
      show jw_W (js_S n) _ md_317 38 [some (.inr (.inr 103)), some (.inl i), some (.inl w), some (.inl b), some (.inr (.inl (jm_rgd σ0 i w))), none, some (.inr (.inl (jm_rgl σ0 i w))), none] [.inr (.inl (σ 103 70)), .inr (.inl ((jm_rgd σ0 i w) * (σ 103 71)))] σ _
      refine jw_W_n 2 (i' := 40) (ls' := [some (.inr (.inr 103)), some (.inl i), some (.inl w), some (.inl b), some (.inr (.inl (jm_rgd σ0 i w))), none, some (.inr (.inl (jm_rgl σ0 i w))), none]) (st' := [.inr (.inl ((σ 103 70) * (jm_rgl σ0 i w))), .inr (.inl ((jm_rgd σ0 i w) * (σ 103 71)))]) rfl ?_
      refine jw_W_lc rfl rfl (by unfold jw_rgl; omega) (by unfold jw_rgl; omega) (fun hc2 => ?_) (fun hc2 => ?_)
      · have hc2 : ((jm_rgd σ0 i w) * (σ 103 71)) ≤ ((σ 103 70) * (jm_rgl σ0 i w)) := hc2
        refine jw_W_n 2 (i' := 8) (ls' := [some (.inr (.inr 103)), some (.inl i), some (.inl (w + 1)), some (.inl b), some (.inr (.inl (jm_rgd σ0 i w))), none, some (.inr (.inl (jm_rgl σ0 i w))), none]) (st' := []) rfl ?_
        exact ih (by omega) HZ (by rw [jm_rg_s w0, if_neg (by rw [← HS]; show ¬ (σ 103 70 * jm_rgl σ0 i w < jm_rgd σ0 i w * σ 103 71); omega)]; exact HS)
      · have hc2 : ¬ (((jm_rgd σ0 i w) * (σ 103 71)) ≤ ((σ 103 70) * (jm_rgl σ0 i w))) := hc2
        refine jw_W_n 4 (i' := 46) (ls' := [some (.inr (.inr 103)), some (.inl i), some (.inl w), some (.inl b), some (.inr (.inl (jm_rgd σ0 i w))), none, some (.inr (.inl (jm_rgl σ0 i w))), none]) (st' := [.inl 0, .inr (.inl (jm_rgl σ0 i w)), .inr (.inl (jm_rgd σ0 i w)), .inr (.inr 103)]) rfl ?_
        refine jw_W_call (as := [.inr (.inl (jm_rgd σ0 i w)), .inr (.inl (jm_rgl σ0 i w)), .inl 0]) (rest := [.inr (.inr 103)]) rfl rfl rfl rfl (Nat.le_of_ble_eq_true rfl) (.inl rfl) (jm_ofFr (by unfold jm_bg; omega) (by omega) (by omega) (by unfold jw_rg; omega)) (by omega) ?_ rfl
        rintro r1 σz ⟨rfl, hs⟩
        rw [hs]
        show jw_W (js_S n) _ md_317 47 [some (.inr (.inr 103)), some (.inl i), some (.inl w), some (.inl b), some (.inr (.inl (jm_rgd σ0 i w))), none, some (.inr (.inl (jm_rgl σ0 i w))), none] [.inr (.inl (jm_of (jm_rgd σ0 i w) (jm_rgl σ0 i w) 0)), .inr (.inr 103)] σ _
        refine jw_W_pf (a := jm_of (jm_rgd σ0 i w) (jm_rgl σ0 i w) 0) rfl (by omega) rfl rfl rfl rfl rfl ?_
        refine jw_W_n 4 (i' := 52) (ls' := [some (.inr (.inr 103)), some (.inl i), some (.inl w), some (.inl b), some (.inr (.inl (jm_rgd σ0 i w))), none, some (.inr (.inl (jm_rgl σ0 i w))), none]) (st' := [.inl 1, .inr (.inl (jm_rgl σ0 i w)), .inr (.inl (jm_rgd σ0 i w)), .inr (.inr 103)]) rfl ?_
        refine jw_W_call (as := [.inr (.inl (jm_rgd σ0 i w)), .inr (.inl (jm_rgl σ0 i w)), .inl 1]) (rest := [.inr (.inr 103)]) rfl rfl rfl rfl (Nat.le_of_ble_eq_true rfl) (.inl rfl) (jm_ofFr (by unfold jm_bg; omega) (by omega) (by omega) (by unfold jw_rg; omega)) (by omega) ?_ rfl
        rintro r1 σz ⟨rfl, hs⟩
        rw [hs]
        show jw_W (js_S n) _ md_317 53 [some (.inr (.inr 103)), some (.inl i), some (.inl w), some (.inl b), some (.inr (.inl (jm_rgd σ0 i w))), none, some (.inr (.inl (jm_rgl σ0 i w))), none] [.inr (.inl (jm_of (jm_rgd σ0 i w) (jm_rgl σ0 i w) 1)), .inr (.inr 103)] ((jw_up σ 103 70 (jm_of (jm_rgd σ0 i w) (jm_rgl σ0 i w) 0))) _
        refine jw_W_pf (a := jm_of (jm_rgd σ0 i w) (jm_rgl σ0 i w) 1) rfl (by omega) rfl rfl rfl rfl rfl ?_
        refine jw_W_n 2 (i' := 8) (ls' := [some (.inr (.inr 103)), some (.inl i), some (.inl (w + 1)), some (.inl b), some (.inr (.inl (jm_rgd σ0 i w))), none, some (.inr (.inl (jm_rgl σ0 i w))), none]) (st' := []) rfl ?_
        have ee := jx_fr_of (u := jm_rgd σ0 i w) (l := jm_rgl σ0 i w) bd2.1
        exact ih (by omega) (jm_f71_up (jm_f71_up HZ (by omega)) (by omega)) (by rw [jm_rg_s w0, if_pos (by rw [← HS]; show σ 103 70 * jm_rgl σ0 i w < jm_rgd σ0 i w * σ 103 71; omega)]; exact Prod.ext ee.1.symm ee.2.symm)
theorem jm_laysRegret {n : Nat} {σ : jw_H} {C : List (ge_R × Int)} (hKN : jm_KN σ C) {i : Int} (i0 : 0 ≤ i) (i1 : i < σ 103 56) : jw_T (js_S n) 4 317 [.inr (.inr 103), .inl i] σ (fun r σ' => r = none ∧ jm_f71 σ σ' ∧ (σ' 103 70, σ' 103 71) = jm_rgt σ i) := by
  refine jw_T_of (D := 3) (M := mm_317) rfl (Nat.le_of_ble_eq_true rfl) (ls0 := [some (.inr (.inr 103)), some (.inl i), none, none, none, none, none, none]) rfl ?_ (by rintro _ _ ⟨rfl, -⟩; rfl)
  have hcb := (jm_kw_cbd hKN.1).2 σ (jm_fk_rf σ)
  have hcn := hcb.1
  have hPm := hKN.1.1
  have hqq := hPm.1
  have hww := hPm.2.1
  have hkk := hPm.2.2.1
  have hg57 := hKN.2.2.1.1
  have hg58 := hKN.2.2.2.1.1
  refine jw_W_n 2 (i' := 2) (ls' := [some (.inr (.inr 103)), some (.inl i), none, none, none, none, none, none]) (st' := [.inr (.inl 0), .inr (.inr 103)]) rfl ?_
  refine jw_W_pf (a := 0) rfl (by omega) rfl rfl rfl rfl rfl ?_
  refine jw_W_n 2 (i' := 5) (ls' := [some (.inr (.inr 103)), some (.inl i), none, none, none, none, none, none]) (st' := [.inr (.inl 1), .inr (.inr 103)]) rfl ?_
  refine jw_W_pf (a := 1) rfl (by omega) rfl rfl rfl rfl rfl ?_
  refine jw_W_n 2 (i' := 8) (ls' := [some (.inr (.inr 103)), some (.inl i), some (.inl 0), none, none, none, none, none]) (st' := []) rfl ?_
  have hf0 : jm_f71 σ (jw_up (jw_up σ 103 70 0) 103 71 1) := jm_f71_up (jm_f71_up (jm_f71_rf σ) (by omega)) (by omega)
  exact jm_lrg_loop hKN i0 i1 (σ 103 4).toNat (w := 0) (by omega) (by omega) hf0 rfl
/-- the class's Fraction 99 -/
def jx_f99 (σ σ' : jw_H) : Prop := ∀ o, o ≠ 99 → σ' o = σ o
theorem jx_f99_y {σ σ' : jw_H} (h : jx_f99 σ σ') : jx_fy σ σ' := ⟨fun c _ h2 => h c (by omega), fun j _ => by rw [h 13 (by omega)]⟩
theorem jm_mst_mec {σ0 σ : jw_H} (h : jx_me σ0 σ) {w m b : Int} (hm : jm_mst σ w m b) : jm_mst σ0 w m b := by
  unfold jm_mst jm_wl jm_W at *
  simp only [jx_me_ct h, h 104 (by omega), h 135 (by omega)] at hm
  exact hm
theorem jx_frg_loop {n : Nat} {σ0 : jw_H} {o : Nat} {C : List (ge_R × Int)} (hK0 : jx_K n o C σ0) {i : Int} (i0 : 0 ≤ i) (i1 : i < σ0 103 56) : ∀ (f : Nat) {σ : jw_H} {w : Int} {u3 u4 u6 : Option jw_V}, 0 ≤ w → w + f = σ0 103 4 → jx_f99 σ0 σ → (σ 99 0, σ 99 1) = jm_rg σ0 i w.toNat → jw_W (js_S n) 4 md_149 7 [some (.inr (.inr 13)), some (.inl i), some (.inl w), u3, u4, none, u6, none] [] σ (fun r σ' => r = none ∧ jx_f99 σ0 σ' ∧ (σ' 99 0, σ' 99 1) = jm_rgt σ0 i)
  | f, σ, w, u3, u4, u6, w0, hk, HZ, HS => by
    have ih : ∀ {σ' : jw_H} {u3' u4' u6' : Option jw_V}, w < σ0 103 4 → jx_f99 σ0 σ' → (σ' 99 0, σ' 99 1) = jm_rg σ0 i (w + 1).toNat → jw_W (js_S n) 4 md_149 7 [some (.inr (.inr 13)), some (.inl i), some (.inl (w + 1)), u3', u4', none, u6', none] [] σ' (fun r σ' => r = none ∧ jx_f99 σ0 σ' ∧ (σ' 99 0, σ' 99 1) = jm_rgt σ0 i) := by
      intro σ' u3' u4' u6' h1 h2 h3
      match f, hk with
      | 0, hk => omega
      | f + 1, hk => exact jx_frg_loop hK0 i0 i1 f (by omega) (by omega) h2 h3
    have hP0 := hK0.2.1.1.1
    have hcb0 := (jm_kw_cbd hK0.2.1.1).2 σ0 (jm_fk_rf σ0)
    have hfy := jx_f99_y HZ
    have hme := jx_fx_me (jx_fy_x hfy)
    have hK := jx_K_y hfy hK0
    have e103 := hme 103 (by omega)
    have e4 : σ 103 4 = σ0 103 4 := by rw [e103]
    have e56 : σ 103 56 = σ0 103 56 := by rw [e103]
    have hrb := (jm_rg_ok hP0 hcb0 i0 i1 w0 (show w ≤ σ0 103 4 by omega)).1
    rw [← HS] at hrb
    unfold jm_rb at hrb
    dsimp only at hrb
    have hI := hK.1
    obtain ⟨hto, hfo, hp, hP, e0, e1, e2, hPm, hcb, c0, p0, -⟩ := jx_I0_x hI
    have ho := hp.1
    have hq := hP.1
    have hw := hP.2.1
    have hq2 := hP.2.2.1
    have hcn := hcb.1
    refine jw_W_n 2 (i' := 9) (ls' := [some (.inr (.inr 13)), some (.inl i), some (.inl w), u3, u4, none, u6, none]) (st' := [.inr (.inr 13), .inl w]) rfl ?_
    refine jw_W_gf rfl rfl rfl ?_
    show jw_W (js_S n) _ md_149 10 [some (.inr (.inr 13)), some (.inl i), some (.inl w), u3, u4, none, u6, none] [.inr (.inr ((σ 13 2).toNat)), .inl w] σ _
    rw [hto]
    refine jw_W_gf rfl hp.2.1 rfl ?_
    show jw_W (js_S n) _ md_149 11 [some (.inr (.inr 13)), some (.inl i), some (.inl w), u3, u4, none, u6, none] [.inl (σ o 1), .inl w] σ _
    refine jw_W_ic rfl (by unfold jw_rg; omega) (by unfold jw_rg; omega) (fun hc1 => ?_) (fun hc1 => ?_)
    · have hc1 : w ≥ (σ o 1) := hc1
      refine jw_W_re rfl ?_
      have hkl : w = σ0 103 4 := by omega
      subst hkl
      exact ⟨rfl, HZ, HS⟩
    · have hc1 : ¬ (w ≥ (σ o 1)) := hc1
      refine jw_W_n 1 (i' := 13) (ls' := [some (.inr (.inr 13)), some (.inl i), some (.inl w), u3, u4, none, u6, none]) (st' := [.inr (.inr 13)]) rfl ?_
      refine jw_W_gf rfl rfl rfl ?_
      show jw_W (js_S n) _ md_149 14 [some (.inr (.inr 13)), some (.inl i), some (.inl w), u3, u4, none, u6, none] [.inr (.inr 57)] σ _
      refine jw_W_gf rfl rfl rfl ?_
      show jw_W (js_S n) _ md_149 15 [some (.inr (.inr 13)), some (.inl i), some (.inl w), u3, u4, none, u6, none] [.inr (.inr 58)] σ _
      refine jw_W_n 1 (i' := 16) (ls' := [some (.inr (.inr 13)), some (.inl i), some (.inl w), u3, u4, none, u6, none]) (st' := [.inr (.inr 13), .inr (.inr 58)]) rfl ?_
      refine jw_W_gf rfl rfl rfl ?_
      show jw_W (js_S n) _ md_149 17 [some (.inr (.inr 13)), some (.inl i), some (.inl w), u3, u4, none, u6, none] [.inr (.inr ((σ 13 2).toNat)), .inr (.inr 58)] σ _
      rw [hto]
      refine jw_W_gf rfl hp.2.1 rfl ?_
      show jw_W (js_S n) _ md_149 18 [some (.inr (.inr 13)), some (.inl i), some (.inl w), u3, u4, none, u6, none] [.inr (.inr (o + 1)), .inr (.inr 58)] σ _
      refine jw_W_n 3 (i' := 21) (ls' := [some (.inr (.inr 13)), some (.inl i), some (.inl w), u3, u4, none, u6, none]) (st' := [.inl (3 * w), .inr (.inr (o + 1)), .inr (.inr 58)]) rfl ?_
      refine jw_W_call (as := [.inr (.inr 58), .inr (.inr (o + 1)), .inl (3 * w)]) (rest := []) rfl rfl rfl rfl (Nat.le_of_ble_eq_true rfl) (.inr rfl) (jx_firstWithMost (f := 3 * w) (jx_pp_58 n) hp.2.2.1 (by omega) (by omega) (by omega) (by rw [(jx_I0_W hI w0 (show w < σ 103 4 by omega)).1]; exact (jx_I0_W hI w0 (show w < σ 103 4 by omega)).2) (jx_I0_pb hI)) (by omega) ?_ rfl
      rintro r1 σz ⟨b, rfl, hs, hfb⟩
      rw [hs]
      rw [p0] at hfb
      have hb := jm_mst_fst (by omega) (jx_I0_W hI w0 (show w < σ 103 4 by omega)).1 (fun i i0 i1 => (jx_I0_c hI i0 i1).1) hfb
      rw [e56] at hb
      have hb0 := jm_mst_mec hme hb
      have hb1 := hb0.1
      obtain ⟨bd1, bd2⟩ := jm_rgd_bd hP0 hcb0 i0 i1 w0 (show w < σ0 103 4 by omega) hb0
      have edd : jm_mw σ w b i = jm_rgd σ0 i w := by rw [jm_mw_me hme]; unfold jm_rgd; rw [jm_bst_eq hb0]
      have hbi : 0 < σ 62 i ∧ σ 62 i ≤ 162 := ((jx_I0_pb hI).2 i i0 (by omega)).2.2.2
      have hbb : 0 < σ 62 b ∧ σ 62 b ≤ 162 := ((jx_I0_pb hI).2 b hb1.1 (by omega)).2.2.2
      have ell : σ 62 i * σ 62 b = jm_rgl σ0 i w := by (rw [show σ 62 i = σ0 135 i from (congrArg (fun v : ge_R => v.2.2.2) (jx_I0_c hI i0 (show i < σ 103 56 by omega)).1).trans (by rw [← hme 135 (by omega)]; rfl), show σ 62 b = σ0 135 b from (congrArg (fun v : ge_R => v.2.2.2) (jx_I0_c hI hb1.1 (show b < σ 103 56 by omega)).1).trans (by rw [← hme 135 (by omega)]; rfl)]; unfold jm_rgl; rw [jm_bst_eq hb0]; exact Int.mul_comm _ _)
      show jw_W (js_S n) _ md_149 22 [some (.inr (.inr 13)), some (.inl i), some (.inl w), u3, u4, none, u6, none] [.inl b] σ _
      refine jw_W_n 2 (i' := 24) (ls' := [some (.inr (.inr 13)), some (.inl i), some (.inl w), some (.inl b), u4, none, u6, none]) (st' := [.inl b]) rfl ?_
      refine jw_W_if rfl (by unfold jw_rg; omega) (fun hc2 => ?_) (fun hc2 => ?_)
      · have hc2 : b < 0 := hc2
        refine jw_W_n 2 (i' := 7) (ls' := [some (.inr (.inr 13)), some (.inl i), some (.inl (w + 1)), some (.inl b), u4, none, u6, none]) (st' := []) rfl ?_
        first | omega | exact ih (by omega) HZ (by rw [jm_rg_s w0, if_neg (by rw [← HS]; exact hbl)]; exact HS)
      · have hc2 : ¬ (b < 0) := hc2
        refine jw_W_n 1 (i' := 26) (ls' := [some (.inr (.inr 13)), some (.inl i), some (.inl w), some (.inl b), u4, none, u6, none]) (st' := [.inr (.inr 13)]) rfl ?_
        refine jw_W_gf rfl rfl rfl ?_
        show jw_W (js_S n) _ md_149 27 [some (.inr (.inr 13)), some (.inl i), some (.inl w), some (.inl b), u4, none, u6, none] [.inr (.inr 57)] σ _
        refine jw_W_gf rfl rfl rfl ?_
        show jw_W (js_S n) _ md_149 28 [some (.inr (.inr 13)), some (.inl i), some (.inl w), some (.inl b), u4, none, u6, none] [.inr (.inr 58)] σ _
        refine jw_W_n 3 (i' := 31) (ls' := [some (.inr (.inr 13)), some (.inl i), some (.inl w), some (.inl b), u4, none, u6, none]) (st' := [.inr (.inr 13), .inl b, .inl i, .inr (.inr 58)]) rfl ?_
        refine jw_W_gf rfl rfl rfl ?_
        show jw_W (js_S n) _ md_149 32 [some (.inr (.inr 13)), some (.inl i), some (.inl w), some (.inl b), u4, none, u6, none] [.inr (.inr ((σ 13 2).toNat)), .inl b, .inl i, .inr (.inr 58)] σ _
        rw [hto]
        refine jw_W_gf rfl hp.2.1 rfl ?_
        show jw_W (js_S n) _ md_149 33 [some (.inr (.inr 13)), some (.inl i), some (.inl w), some (.inl b), u4, none, u6, none] [.inr (.inr (o + 1)), .inl b, .inl i, .inr (.inr 58)] σ _
        refine jw_W_n 3 (i' := 36) (ls' := [some (.inr (.inr 13)), some (.inl i), some (.inl w), some (.inl b), u4, none, u6, none]) (st' := [.inl (3 * w), .inr (.inr (o + 1)), .inl b, .inl i, .inr (.inr 58)]) rfl ?_
        refine jw_W_call (as := [.inr (.inr 58), .inl i, .inl b, .inr (.inr (o + 1)), .inl (3 * w)]) (rest := []) rfl rfl rfl rfl (Nat.le_of_ble_eq_true rfl) (.inr rfl) (jx_chM hI (by omega) (by omega) i0 (by omega) w0 (by omega)) (by omega) ?_ rfl
        rintro r1 σz ⟨rfl, hs⟩
        rw [hs, edd]
        show jw_W (js_S n) _ md_149 37 [some (.inr (.inr 13)), some (.inl i), some (.inl w), some (.inl b), u4, none, u6, none] [.inr (.inl (jm_rgd σ0 i w))] σ _
        refine jw_W_n 2 (i' := 39) (ls' := [some (.inr (.inr 13)), some (.inl i), some (.inl w), some (.inl b), some (.inr (.inl (jm_rgd σ0 i w))), none, u6, none]) (st' := [.inr (.inr 13)]) rfl ?_
        refine jw_W_gf rfl rfl rfl ?_
        show jw_W (js_S n) _ md_149 40 [some (.inr (.inr 13)), some (.inl i), some (.inl w), some (.inl b), some (.inr (.inl (jm_rgd σ0 i w))), none, u6, none] [.inr (.inr 57)] σ _
        refine jw_W_gf rfl rfl rfl ?_
        show jw_W (js_S n) _ md_149 41 [some (.inr (.inr 13)), some (.inl i), some (.inl w), some (.inl b), some (.inr (.inl (jm_rgd σ0 i w))), none, u6, none] [.inr (.inr 58)] σ _
        refine jw_W_gf rfl rfl rfl ?_
        show jw_W (js_S n) _ md_149 42 [some (.inr (.inr 13)), some (.inl i), some (.inl w), some (.inl b), some (.inr (.inl (jm_rgd σ0 i w))), none, u6, none] [.inr (.inr 62)] σ _
        refine jw_W_n 1 (i' := 43) (ls' := [some (.inr (.inr 13)), some (.inl i), some (.inl w), some (.inl b), some (.inr (.inl (jm_rgd σ0 i w))), none, u6, none]) (st' := [.inl i, .inr (.inr 62)]) rfl ?_
        refine jw_W_ia rfl rfl (by omega) (by omega) (by omega) ?_
        show jw_W (js_S n) _ md_149 44 [some (.inr (.inr 13)), some (.inl i), some (.inl w), some (.inl b), some (.inr (.inl (jm_rgd σ0 i w))), none, u6, none] [.inl (σ 62 i)] σ _
        refine jw_W_i2l rfl (by unfold jw_rg; omega) ?_
        refine jw_W_n 1 (i' := 46) (ls' := [some (.inr (.inr 13)), some (.inl i), some (.inl w), some (.inl b), some (.inr (.inl (jm_rgd σ0 i w))), none, u6, none]) (st' := [.inr (.inr 13), .inr (.inl (σ 62 i))]) rfl ?_
        refine jw_W_gf rfl rfl rfl ?_
        show jw_W (js_S n) _ md_149 47 [some (.inr (.inr 13)), some (.inl i), some (.inl w), some (.inl b), some (.inr (.inl (jm_rgd σ0 i w))), none, u6, none] [.inr (.inr 57), .inr (.inl (σ 62 i))] σ _
        refine jw_W_gf rfl rfl rfl ?_
        show jw_W (js_S n) _ md_149 48 [some (.inr (.inr 13)), some (.inl i), some (.inl w), some (.inl b), some (.inr (.inl (jm_rgd σ0 i w))), none, u6, none] [.inr (.inr 58), .inr (.inl (σ 62 i))] σ _
        refine jw_W_gf rfl rfl rfl ?_
        show jw_W (js_S n) _ md_149 49 [some (.inr (.inr 13)), some (.inl i), some (.inl w), some (.inl b), some (.inr (.inl (jm_rgd σ0 i w))), none, u6, none] [.inr (.inr 62), .inr (.inl (σ 62 i))] σ _
        refine jw_W_n 1 (i' := 50) (ls' := [some (.inr (.inr 13)), some (.inl i), some (.inl w), some (.inl b), some (.inr (.inl (jm_rgd σ0 i w))), none, u6, none]) (st' := [.inl b, .inr (.inr 62), .inr (.inl (σ 62 i))]) rfl ?_
        refine jw_W_ia rfl rfl (by omega) (by omega) (by omega) ?_
        show jw_W (js_S n) _ md_149 51 [some (.inr (.inr 13)), some (.inl i), some (.inl w), some (.inl b), some (.inr (.inl (jm_rgd σ0 i w))), none, u6, none] [.inl (σ 62 b), .inr (.inl (σ 62 i))] σ _
        refine jw_W_i2l rfl (by unfold jw_rg; omega) ?_
        refine jw_W_n 1 (i' := 53) (ls' := [some (.inr (.inr 13)), some (.inl i), some (.inl w), some (.inl b), some (.inr (.inl (jm_rgd σ0 i w))), none, u6, none]) (st' := [.inr (.inl ((σ 62 i) * (σ 62 b)))]) rfl ?_
        rw [ell]
        refine jw_W_n 2 (i' := 55) (ls' := [some (.inr (.inr 13)), some (.inl i), some (.inl w), some (.inl b), some (.inr (.inl (jm_rgd σ0 i w))), none, some (.inr (.inl (jm_rgl σ0 i w))), none]) (st' := [.inr (.inr 13)]) rfl ?_
        refine jw_W_gf rfl rfl rfl ?_
        show jw_W (js_S n) _ md_149 56 [some (.inr (.inr 13)), some (.inl i), some (.inl w), some (.inl b), some (.inr (.inl (jm_rgd σ0 i w))), none, some (.inr (.inl (jm_rgl σ0 i w))), none] [.inr (.inr 99)] σ _
        refine jw_W_n 2 (i' := 58) (ls' := [some (.inr (.inr 13)), some (.inl i), some (.inl w), some (.inl b), some (.inr (.inl (jm_rgd σ0 i w))), none, some (.inr (.inl (jm_rgl σ0 i w))), none]) (st' := [.inr (.inl (jm_rgl σ0 i w)), .inr (.inl (jm_rgd σ0 i w)), .inr (.inr 99)]) rfl ?_
        refine jw_W_call (as := [.inr (.inr 99), .inr (.inl (jm_rgd σ0 i w)), .inr (.inl (jm_rgl σ0 i w))]) (rest := []) rfl rfl rfl rfl (Nat.le_of_ble_eq_true rfl) (.inr rfl) (jx_isBelow (jx_fo_99 n) (jx_bgm (by omega) (by omega)) (jx_bgm (by omega) (by omega))) (by omega) ?_ rfl
        rintro r1 σz (⟨rfl, hs, hbl⟩ | ⟨rfl, hs, hbl⟩)
        · rw [hs]
          show jw_W (js_S n) _ md_149 59 [some (.inr (.inr 13)), some (.inl i), some (.inl w), some (.inl b), some (.inr (.inl (jm_rgd σ0 i w))), none, some (.inr (.inl (jm_rgl σ0 i w))), none] [.inl 1] σ _
          refine jw_W_if rfl (by unfold jw_rg; omega) (fun hc3 => ?_) (fun hc3 => ?_)
          · exact absurd hc3 (show ¬ ((1 : Int) = 0) by omega)
          · clear hc3
            refine jw_W_n 1 (i' := 61) (ls' := [some (.inr (.inr 13)), some (.inl i), some (.inl w), some (.inl b), some (.inr (.inl (jm_rgd σ0 i w))), none, some (.inr (.inl (jm_rgl σ0 i w))), none]) (st' := [.inr (.inr 13)]) rfl ?_
            refine jw_W_gf rfl rfl rfl ?_
            show jw_W (js_S n) _ md_149 62 [some (.inr (.inr 13)), some (.inl i), some (.inl w), some (.inl b), some (.inr (.inl (jm_rgd σ0 i w))), none, some (.inr (.inl (jm_rgl σ0 i w))), none] [.inr (.inr 99)] σ _
            refine jw_W_n 2 (i' := 64) (ls' := [some (.inr (.inr 13)), some (.inl i), some (.inl w), some (.inl b), some (.inr (.inl (jm_rgd σ0 i w))), none, some (.inr (.inl (jm_rgl σ0 i w))), none]) (st' := [.inr (.inl (jm_rgl σ0 i w)), .inr (.inl (jm_rgd σ0 i w)), .inr (.inr 99)]) rfl ?_
            refine jw_W_call (as := [.inr (.inr 99), .inr (.inl (jm_rgd σ0 i w)), .inr (.inl (jm_rgl σ0 i w))]) (rest := []) rfl rfl rfl rfl (Nat.le_of_ble_eq_true rfl) (.inr rfl) (jx_set (jx_fo_99 n) (by unfold jm_bg; omega) (by unfold jm_bg; omega) (by omega)) (by omega) ?_ rfl
            rintro r1 σ1 ⟨rfl, hs⟩
            show jw_W (js_S n) _ md_149 65 [some (.inr (.inr 13)), some (.inl i), some (.inl w), some (.inl b), some (.inr (.inl (jm_rgd σ0 i w))), none, some (.inr (.inl (jm_rgl σ0 i w))), none] [] σ1 _
            refine jw_W_n 2 (i' := 7) (ls' := [some (.inr (.inr 13)), some (.inl i), some (.inl (w + 1)), some (.inl b), some (.inr (.inl (jm_rgd σ0 i w))), none, some (.inr (.inl (jm_rgl σ0 i w))), none]) (st' := []) rfl ?_
            exact ih (by omega) (by rw [hs]; exact fun c hc => (jx_fs_o σ _ hc).trans (HZ c hc)) (by rw [jm_rg_s w0, if_pos (by rw [← HS]; exact hbl), hs]; rfl)
        · rw [hs]
          show jw_W (js_S n) _ md_149 59 [some (.inr (.inr 13)), some (.inl i), some (.inl w), some (.inl b), some (.inr (.inl (jm_rgd σ0 i w))), none, some (.inr (.inl (jm_rgl σ0 i w))), none] [.inl 0] σ _
          refine jw_W_if rfl (by unfold jw_rg; omega) (fun hc4 => ?_) (fun hc4 => ?_)
          · clear hc4
            refine jw_W_n 2 (i' := 7) (ls' := [some (.inr (.inr 13)), some (.inl i), some (.inl (w + 1)), some (.inl b), some (.inr (.inl (jm_rgd σ0 i w))), none, some (.inr (.inl (jm_rgl σ0 i w))), none]) (st' := []) rfl ?_
            first | omega | exact ih (by omega) HZ (by rw [jm_rg_s w0, if_neg (by rw [← HS]; exact hbl)]; exact HS)
          · exact absurd hc4 (show ¬ ¬ ((0 : Int) = 0) by omega)
theorem jx_findRegret {n : Nat} {σ : jw_H} {o : Nat} {C : List (ge_R × Int)} (hK : jx_K n o C σ) {i : Int} (i0 : 0 ≤ i) (i1 : i < σ 103 56) : jw_T (js_S n) 5 149 [.inr (.inr 13), .inl i] σ (fun r σ' => r = none ∧ jx_f99 σ σ' ∧ (σ' 99 0, σ' 99 1) = jm_rgt σ i) := by
  refine jw_T_of (D := 4) (M := mm_149) rfl (Nat.le_of_ble_eq_true rfl) (ls0 := [some (.inr (.inr 13)), some (.inl i), none, none, none, none, none, none]) rfl ?_ (by rintro _ _ ⟨rfl, -⟩; rfl)
  have hI := hK.1
  obtain ⟨hto, hfo, hp, hP, e0, e1, e2, hPm, hcb, c0, p0, -⟩ := jx_I0_x hI
  have ho := hp.1
  have hq := hP.1
  have hw := hP.2.1
  have hq2 := hP.2.2.1
  have hcn := hcb.1
  refine jw_W_n 1 (i' := 1) (ls' := [some (.inr (.inr 13)), some (.inl i), none, none, none, none, none, none]) (st' := [.inr (.inr 13)]) rfl ?_
  refine jw_W_gf rfl rfl rfl ?_
  show jw_W (js_S n) _ md_149 2 [some (.inr (.inr 13)), some (.inl i), none, none, none, none, none, none] [.inr (.inr 99)] σ _
  refine jw_W_n 2 (i' := 4) (ls' := [some (.inr (.inr 13)), some (.inl i), none, none, none, none, none, none]) (st' := [.inr (.inl 1), .inr (.inl 0), .inr (.inr 99)]) rfl ?_
  refine jw_W_call (as := [.inr (.inr 99), .inr (.inl 0), .inr (.inl 1)]) (rest := []) rfl rfl rfl rfl (Nat.le_of_ble_eq_true rfl) (.inr rfl) (jx_set (jx_fo_99 n) (by unfold jm_bg; omega) (by unfold jm_bg; omega) (by omega)) (by omega) ?_ rfl
  rintro r1 σ1 ⟨rfl, hs⟩
  have hf1 : jx_f99 σ σ1 := by rw [hs]; exact fun c hc => jx_fs_o σ _ hc
  have hme1 := jx_fx_me (jx_fy_x (jx_f99_y hf1))
  show jw_W (js_S n) _ md_149 5 [some (.inr (.inr 13)), some (.inl i), none, none, none, none, none, none] [] σ1 _
  refine jw_W_n 2 (i' := 7) (ls' := [some (.inr (.inr 13)), some (.inl i), some (.inl 0), none, none, none, none, none]) (st' := []) rfl ?_
  exact jx_frg_loop hK i0 i1 (σ 103 4).toNat (w := 0) (by omega) (by omega) hf1 (by rw [hs]; show jx_fr 0 1 = (0, 1); decide)

/-! ===== weights, the answers ===== -/
/-- the answers of weights -/
noncomputable def jm_wta (σ : jw_H) (i w : Int) : Int := if ¬ (0 ≤ i ∧ 0 ≤ w ∧ w ≤ 3) then -1 else if σ 103 4 ≠ 2 then -3 else if ¬ i < σ 103 56 then -4 else if jx_b (jm_hsn σ i) = 0 then -2 else if w < 2 then jm_of (jm_shn σ i).1 (jm_shn σ i).2.1 w else jm_of (jm_shn σ i).2.2.1 (jm_shn σ i).2.2.2 (w - 2)
theorem jm_wta_me {σ0 σ : jw_H} (h : jx_me σ0 σ) (i w : Int) : jm_wta σ i w = jm_wta σ0 i w := by
  unfold jm_wta jm_hsn jm_shn
  rw [jm_mw_me h, jm_mw_me h, h 103 (by omega)]
theorem jx_bgm {x y : Int} (hx : -9000000 ≤ x ∧ x ≤ 9000000) (hy : -9000000 ≤ y ∧ y ≤ 9000000) : jm_bg (x * y) := by
  have := jx_mulb hx hy (by omega)
  unfold jm_bg
  omega
theorem jx_fr_gt {u l a b : Int} (h : 0 < l) : b * (jx_fr u l).2 < (jx_fr u l).1 * a ↔ b * l < u * a := by
  obtain ⟨g, g0, e1, e2⟩ := jx_fr_gl (u := u) h
  have q1 : u * a = (jx_fr u l).1 * a * g := by
    conv => lhs; rw [e1]
    exact Int.mul_right_comm ..
  have q2 : b * l = b * (jx_fr u l).2 * g := by
    conv => lhs; rw [e2]
    exact (Int.mul_assoc ..).symm
  rw [q1, q2]
  exact ⟨fun h => Int.mul_lt_mul_of_pos_right h g0, fun h => Int.lt_of_mul_lt_mul_right h (Int.le_of_lt g0)⟩
theorem jx_fr_bd {u l B : Int} (h : 0 < l) (hl : l ≤ B) (hu : -B ≤ u ∧ u ≤ B) : (-B ≤ (jx_fr u l).1 ∧ (jx_fr u l).1 ≤ B) ∧ (0 < (jx_fr u l).2 ∧ (jx_fr u l).2 ≤ B) := by
  have hp := jx_fr_pos (u := u) (l := l) (by omega)
  obtain ⟨g, g0, e1, e2⟩ := jx_fr_gl (u := u) h
  have n1 : u.natAbs = (jx_fr u l).1.natAbs * g.natAbs := by
    conv => lhs; rw [e1]
    exact Int.natAbs_mul ..
  have n2 : l.natAbs = (jx_fr u l).2.natAbs * g.natAbs := by
    conv => lhs; rw [e2]
    exact Int.natAbs_mul ..
  have m1 := Nat.le_mul_of_pos_right (jx_fr u l).1.natAbs (show 0 < g.natAbs by omega)
  have m2 := Nat.le_mul_of_pos_right (jx_fr u l).2.natAbs (show 0 < g.natAbs by omega)
  omega
theorem jm_weights {n : Nat} {σ : jw_H} {C : List (ge_R × Int)} (hKN : jm_KN σ C) {i w : Int} (hi : jw_rg i) (hw : jw_rg w) : jw_T (js_S n) 6 286 [.inr (.inr 103), .inl i, .inl w] σ (fun r σ' => r = some (.inr (.inl (jm_wta σ i w))) ∧ jm_fz σ σ') := by
  refine jw_T_of (D := 5) (M := mm_286) rfl (Nat.le_of_ble_eq_true rfl) (ls0 := [some (.inr (.inr 103)), some (.inl i), some (.inl w)]) rfl ?_ (by rintro _ _ ⟨rfl, -⟩; rfl)
  have hcb := (jm_kw_cbd hKN.1).2 σ (jm_fk_rf σ)
  have hcn := hcb.1
  have hPm := hKN.1.1
  have hqq := hPm.1
  have hww := hPm.2.1
  have hkk := hPm.2.2.1
  have hg57 := hKN.2.2.1.1
  have hg58 := hKN.2.2.2.1.1
  have rhi := hi
  unfold jw_rg at rhi
  have rhw := hw
  unfold jw_rg at rhw
  refine jw_W_n 1 (i' := 1) (ls' := [some (.inr (.inr 103)), some (.inl i), some (.inl w)]) (st' := [.inl i]) rfl ?_
  refine jw_W_if rfl (by unfold jw_rg; omega) (fun hc1 => ?_) (fun hc1 => ?_)
  · have hc1 : i < 0 := hc1
    refine jw_W_ld2 (z := (-1)) rfl rfl ?_
    refine jw_W_lr rfl ?_
    exact ⟨by unfold jm_wta; rw [if_pos (by omega)], jm_fz_rf hKN⟩
  · have hc1 : ¬ (i < 0) := hc1
    refine jw_W_n 3 (i' := 5) (ls' := [some (.inr (.inr 103)), some (.inl i), some (.inl w)]) (st' := [.inl 3, .inl 0, .inl w]) rfl ?_
    refine jw_W_call (as := [.inl w, .inl 0, .inl 3]) (rest := []) rfl rfl rfl rfl (Nat.le_of_ble_eq_true rfl) (.inl rfl) (jm_in (by unfold jw_rg; omega) (by unfold jw_rg; omega) (by unfold jw_rg; omega)) (by omega) ?_ rfl
    rintro r1 σz (⟨rfl, hs, q1⟩ | ⟨rfl, hs, q1⟩)
    · rw [hs]
      show jw_W (js_S n) _ md_286 6 [some (.inr (.inr 103)), some (.inl i), some (.inl w)] [.inl 1] σ _
      refine jw_W_if rfl (by unfold jw_rg; omega) (fun hc2 => ?_) (fun hc2 => ?_)
      · clear hc2
        refine jw_W_n 1 (i' := 10) (ls' := [some (.inr (.inr 103)), some (.inl i), some (.inl w)]) (st' := [.inr (.inr 103)]) rfl ?_
        refine jw_W_gf rfl rfl rfl ?_
        show jw_W (js_S n) _ md_286 11 [some (.inr (.inr 103)), some (.inl i), some (.inl w)] [.inl (σ 103 4)] σ _
        refine jw_W_n 1 (i' := 12) (ls' := [some (.inr (.inr 103)), some (.inl i), some (.inl w)]) (st' := [.inl 2, .inl (σ 103 4)]) rfl ?_
        refine jw_W_ic rfl (by unfold jw_rg; omega) (by unfold jw_rg; omega) (fun hc3 => ?_) (fun hc3 => ?_)
        · have hc3 : (σ 103 4) = 2 := hc3
          refine jw_W_n 2 (i' := 17) (ls' := [some (.inr (.inr 103)), some (.inl i), some (.inl w)]) (st' := [.inr (.inr 103), .inl i]) rfl ?_
          refine jw_W_gf rfl rfl rfl ?_
          show jw_W (js_S n) _ md_286 18 [some (.inr (.inr 103)), some (.inl i), some (.inl w)] [.inl (σ 103 56), .inl i] σ _
          refine jw_W_ic rfl (by unfold jw_rg; omega) (by unfold jw_rg; omega) (fun hc4 => ?_) (fun hc4 => ?_)
          · have hc4 : i < (σ 103 56) := hc4
            refine jw_W_n 2 (i' := 23) (ls' := [some (.inr (.inr 103)), some (.inl i), some (.inl w)]) (st' := [.inl i, .inr (.inr 103)]) rfl ?_
            refine jw_W_call (as := [.inr (.inr 103), .inl i]) (rest := []) rfl rfl rfl rfl (Nat.le_of_ble_eq_true rfl) (.inr rfl) (jm_laysWeights hKN (by omega) (by omega) (by omega)) (by omega) ?_ rfl
            rintro r1 σ1 ⟨v, rfl, hf, hv⟩
            have hv01 : v = 0 ∨ v = 1 := by rcases hv with ⟨e, -⟩ | ⟨e, -⟩ <;> omega
            have hsb : jm_sb (jm_shn σ i) := jm_shb hPm hcb (by omega) (by omega) (by omega) (by omega) (by omega)
            show jw_W (js_S n) _ md_286 24 [some (.inr (.inr 103)), some (.inl i), some (.inl w)] [.inl v] σ1 _
            refine jw_W_if rfl (by unfold jw_rg; omega) (fun hc5 => ?_) (fun hc5 => ?_)
            · have hc5 : v ≠ 0 := hc5
              have hv1 := hv.resolve_right (fun hh => by omega)
              obtain ⟨-, hst, hhs⟩ := hv1
              unfold jm_sb at hsb
              rw [← hst] at hsb
              dsimp only at hsb
              refine jw_W_n 2 (i' := 29) (ls' := [some (.inr (.inr 103)), some (.inl i), some (.inl w)]) (st' := [.inl 2, .inl w]) rfl ?_
              refine jw_W_ic rfl (by unfold jw_rg; omega) (by unfold jw_rg; omega) (fun hc6 => ?_) (fun hc6 => ?_)
              · have hc6 : w ≥ 2 := hc6
                refine jw_W_n 1 (i' := 38) (ls' := [some (.inr (.inr 103)), some (.inl i), some (.inl w)]) (st' := [.inr (.inr 103)]) rfl ?_
                refine jw_W_gf rfl rfl rfl ?_
                show jw_W (js_S n) _ md_286 39 [some (.inr (.inr 103)), some (.inl i), some (.inl w)] [.inr (.inl (σ1 103 62))] σ1 _
                refine jw_W_n 1 (i' := 40) (ls' := [some (.inr (.inr 103)), some (.inl i), some (.inl w)]) (st' := [.inr (.inr 103), .inr (.inl (σ1 103 62))]) rfl ?_
                refine jw_W_gf rfl rfl rfl ?_
                show jw_W (js_S n) _ md_286 41 [some (.inr (.inr 103)), some (.inl i), some (.inl w)] [.inr (.inl (σ1 103 63)), .inr (.inl (σ1 103 62))] σ1 _
                refine jw_W_n 3 (i' := 44) (ls' := [some (.inr (.inr 103)), some (.inl i), some (.inl w)]) (st' := [.inl (w - 2), .inr (.inl (σ1 103 63)), .inr (.inl (σ1 103 62))]) rfl ?_
                refine jw_W_call (as := [.inr (.inl (σ1 103 62)), .inr (.inl (σ1 103 63)), .inl (w - 2)]) (rest := []) rfl rfl rfl rfl (Nat.le_of_ble_eq_true rfl) (.inl rfl) (jm_ofFr (by unfold jm_bg; omega) (by omega) (by omega) (by unfold jw_rg; omega)) (by omega) ?_ rfl
                rintro r1 σz ⟨rfl, hs⟩
                rw [hs]
                show jw_W (js_S n) _ md_286 45 [some (.inr (.inr 103)), some (.inl i), some (.inl w)] [.inr (.inl (jm_of (σ1 103 62) (σ1 103 63) (w - 2)))] σ1 _
                refine jw_W_lr rfl ?_
                exact ⟨by unfold jm_wta; rw [if_neg (by omega), if_neg (by omega), if_neg (by omega)]; rw [jx_b_1 hhs, if_neg (by omega), if_neg (by omega), ← hst], jm_f63_z hKN hf⟩
              · have hc6 : ¬ (w ≥ 2) := hc6
                refine jw_W_n 1 (i' := 31) (ls' := [some (.inr (.inr 103)), some (.inl i), some (.inl w)]) (st' := [.inr (.inr 103)]) rfl ?_
                refine jw_W_gf rfl rfl rfl ?_
                show jw_W (js_S n) _ md_286 32 [some (.inr (.inr 103)), some (.inl i), some (.inl w)] [.inr (.inl (σ1 103 60))] σ1 _
                refine jw_W_n 1 (i' := 33) (ls' := [some (.inr (.inr 103)), some (.inl i), some (.inl w)]) (st' := [.inr (.inr 103), .inr (.inl (σ1 103 60))]) rfl ?_
                refine jw_W_gf rfl rfl rfl ?_
                show jw_W (js_S n) _ md_286 34 [some (.inr (.inr 103)), some (.inl i), some (.inl w)] [.inr (.inl (σ1 103 61)), .inr (.inl (σ1 103 60))] σ1 _
                refine jw_W_n 1 (i' := 35) (ls' := [some (.inr (.inr 103)), some (.inl i), some (.inl w)]) (st' := [.inl w, .inr (.inl (σ1 103 61)), .inr (.inl (σ1 103 60))]) rfl ?_
                refine jw_W_call (as := [.inr (.inl (σ1 103 60)), .inr (.inl (σ1 103 61)), .inl w]) (rest := []) rfl rfl rfl rfl (Nat.le_of_ble_eq_true rfl) (.inl rfl) (jm_ofFr (by unfold jm_bg; omega) (by omega) (by omega) (by unfold jw_rg; omega)) (by omega) ?_ rfl
                rintro r1 σz ⟨rfl, hs⟩
                rw [hs]
                show jw_W (js_S n) _ md_286 36 [some (.inr (.inr 103)), some (.inl i), some (.inl w)] [.inr (.inl (jm_of (σ1 103 60) (σ1 103 61) w))] σ1 _
                refine jw_W_n 1 (i' := 45) (ls' := [some (.inr (.inr 103)), some (.inl i), some (.inl w)]) (st' := [.inr (.inl (jm_of (σ1 103 60) (σ1 103 61) w))]) rfl ?_
                refine jw_W_lr rfl ?_
                exact ⟨by unfold jm_wta; rw [if_neg (by omega), if_neg (by omega), if_neg (by omega)]; rw [jx_b_1 hhs, if_neg (by omega), if_pos (by omega), ← hst], jm_f63_z hKN hf⟩
            · have hc5 : v = 0 := Classical.not_not.mp hc5
              refine jw_W_ld2 (z := (-2)) rfl rfl ?_
              refine jw_W_lr rfl ?_
              have hn := (hv.resolve_left (fun hh => by omega)).2
              exact ⟨by unfold jm_wta; rw [if_neg (by omega), if_neg (by omega), if_neg (by omega)]; rw [jx_b_0 hn, if_pos rfl], jm_f63_z hKN hf⟩
          · have hc4 : ¬ (i < (σ 103 56)) := hc4
            refine jw_W_ld2 (z := (-4)) rfl rfl ?_
            refine jw_W_lr rfl ?_
            exact ⟨by unfold jm_wta; rw [if_neg (by omega), if_neg (by omega), if_pos (by omega)], jm_fz_rf hKN⟩
        · have hc3 : ¬ ((σ 103 4) = 2) := hc3
          refine jw_W_ld2 (z := (-3)) rfl rfl ?_
          refine jw_W_lr rfl ?_
          exact ⟨by unfold jm_wta; rw [if_neg (by omega), if_pos (by omega)], jm_fz_rf hKN⟩
      · exact absurd hc2 (show ¬ ¬ ((1 : Int) ≠ 0) by omega)
    · rw [hs]
      show jw_W (js_S n) _ md_286 6 [some (.inr (.inr 103)), some (.inl i), some (.inl w)] [.inl 0] σ _
      refine jw_W_if rfl (by unfold jw_rg; omega) (fun hc7 => ?_) (fun hc7 => ?_)
      · exact absurd hc7 (show ¬ ((0 : Int) ≠ 0) by omega)
      · clear hc7
        refine jw_W_ld2 (z := (-1)) rfl rfl ?_
        refine jw_W_lr rfl ?_
        exact ⟨by unfold jm_wta; rw [if_pos (by omega)], jm_fz_rf hKN⟩
theorem jx_chM {n : Nat} {σ : jw_H} {o : Nat} {C : List (ge_R × Int)} (h : jx_I0 n σ o C) {i j w : Int} (i0 : 0 ≤ i) (i1 : i < σ 103 56) (j0 : 0 ≤ j) (j1 : j < σ 103 56) (w0 : 0 ≤ w) (w1 : w < σ 103 4) : jw_T (js_S n) 2 64 [.inr (.inr 58), .inl j, .inl i, .inr (.inr (o + 1)), .inl (3 * w)] σ (fun r σ' => r = some (.inr (.inl (jm_mw σ w i j))) ∧ σ' = σ) := jx_chW h j0 j1 i0 i1 w0 w1
/-- the class's shares -/
def jx_f93 (σ σ' : jw_H) : Prop := ∀ o, o ≠ 93 → o ≠ 94 → σ' o = σ o
theorem jx_f93_rf (σ : jw_H) : jx_f93 σ σ := fun _ _ _ => rfl
theorem jx_f93_tr {σ σ1 σ2 : jw_H} (a : jx_f93 σ σ1) (b : jx_f93 σ1 σ2) : jx_f93 σ σ2 := fun o h1 h2 => (b o h1 h2).trans (a o h1 h2)
theorem jx_f93_fs {σ σ' : jw_H} {o : Nat} {v : Int × Int} (h : jx_f93 σ σ') (ho : o = 93 ∨ o = 94) : jx_f93 σ (jx_fs σ' o v) := fun c h1 h2 => by
  rw [jx_fs_o σ' v (by omega)]
  exact h c h1 h2
theorem jx_f93_y {σ σ' : jw_H} (h : jx_f93 σ σ') : jx_fy σ σ' := ⟨fun c _ h2 => h c (by omega) (by omega), fun j _ => by rw [h 13 (by omega) (by omega)]⟩
/-- the class's shares are the state's -/
def jx_ffw (σ : jw_H) (s : Int × Int × Int × Int) : Prop := (σ 93 0 = (jx_fr s.1 s.2.1).1 ∧ σ 93 1 = (jx_fr s.1 s.2.1).2) ∧ σ 94 0 = (jx_fr s.2.2.1 s.2.2.2).1 ∧ σ 94 1 = (jx_fr s.2.2.1 s.2.2.2).2
theorem jx_ffw_bd {σ : jw_H} {s : Int × Int × Int × Int} (h : jx_ffw σ s) (hs : jm_sb s) : (-9000000 ≤ σ 93 0 ∧ σ 93 0 ≤ 9000000) ∧ (0 < σ 93 1 ∧ σ 93 1 ≤ 9000000) ∧ (-9000000 ≤ σ 94 0 ∧ σ 94 0 ≤ 9000000) ∧ (0 < σ 94 1 ∧ σ 94 1 ≤ 9000000) := by
  obtain ⟨⟨h1, h2⟩, h3, h4⟩ := h
  obtain ⟨a, b, c, d⟩ := hs
  have g1 := jx_fr_bd (u := s.1) b.1 b.2 a
  have g2 := jx_fr_bd (u := s.2.2.1) d.1 d.2 c
  rw [h1, h2, h3, h4]
  exact ⟨g1.1, g1.2, g2.1, g2.2⟩
theorem jx_ffw_1 {σ : jw_H} {a b : Int} {s : Int × Int × Int × Int} (h : jx_ffw σ s) (hs : jm_sb s) (hd : b < a) (hb : σ 93 0 * (a - b) < -b * σ 93 1) : jx_ffw (jx_fs σ 93 (jx_fr (-b) (a - b))) (jm_st a b s) := by
  obtain ⟨s1, s2, s3, s4⟩ := s
  obtain ⟨⟨h1, h2⟩, h3, h4⟩ := h
  dsimp only at *
  rw [h1, h2, jx_fr_lt hs.2.1.1] at hb
  unfold jm_st
  dsimp only at *
  rw [if_pos (by omega), if_pos hb]
  exact ⟨⟨rfl, rfl⟩, by rw [jx_fs_o _ _ (by decide)]; exact h3, by rw [jx_fs_o _ _ (by decide)]; exact h4⟩
theorem jx_ffw_2 {σ : jw_H} {a b : Int} {s : Int × Int × Int × Int} (h : jx_ffw σ s) (hs : jm_sb s) (hd : b < a) (hb : ¬ (σ 93 0 * (a - b) < -b * σ 93 1)) : jx_ffw σ (jm_st a b s) := by
  obtain ⟨s1, s2, s3, s4⟩ := s
  have h' := h
  obtain ⟨⟨h1, h2⟩, h3, h4⟩ := h
  dsimp only at *
  rw [h1, h2, jx_fr_lt hs.2.1.1] at hb
  unfold jm_st
  dsimp only at *
  rw [if_pos (by omega), if_neg hb]
  exact h'
theorem jx_ffw_3 {σ : jw_H} {a b : Int} {s : Int × Int × Int × Int} (h : jx_ffw σ s) (hs : jm_sb s) (hd : a < b) (hb : ¬ (σ 94 0 * (b - a) < b * σ 94 1)) : jx_ffw (jx_fs σ 94 (jx_fr b (b - a))) (jm_st a b s) := by
  obtain ⟨s1, s2, s3, s4⟩ := s
  obtain ⟨⟨h1, h2⟩, h3, h4⟩ := h
  have hs4 := hs.2.2.2.1
  dsimp only at *
  rw [h3, h4, jx_fr_lt hs4] at hb
  have e : -(a - b) = b - a := by omega
  unfold jm_st
  dsimp only at *
  rw [if_neg (by omega), if_pos (by omega), e]
  by_cases hc : b * s4 < s3 * (b - a)
  · rw [if_pos hc]
    exact ⟨⟨by rw [jx_fs_o _ _ (by decide)]; exact h1, by rw [jx_fs_o _ _ (by decide)]; exact h2⟩, rfl, rfl⟩
  · rw [if_neg hc]
    have er : jx_fr b (b - a) = jx_fr s3 s4 := jx_fr_eq (by omega) hs4 (by omega)
    rw [er]
    exact ⟨⟨by rw [jx_fs_o _ _ (by decide)]; exact h1, by rw [jx_fs_o _ _ (by decide)]; exact h2⟩, rfl, rfl⟩
theorem jx_ffw_4 {σ : jw_H} {a b : Int} {s : Int × Int × Int × Int} (h : jx_ffw σ s) (hs : jm_sb s) (hd : a < b) (hb : σ 94 0 * (b - a) < b * σ 94 1) : jx_ffw σ (jm_st a b s) := by
  obtain ⟨s1, s2, s3, s4⟩ := s
  have h' := h
  obtain ⟨⟨h1, h2⟩, h3, h4⟩ := h
  have hs4 := hs.2.2.2.1
  dsimp only at *
  rw [h3, h4, jx_fr_lt hs4] at hb
  have e : -(a - b) = b - a := by omega
  unfold jm_st
  dsimp only at *
  rw [if_neg (by omega), if_pos (by omega), e, if_neg (by omega)]
  exact h'
theorem jx_ffw_5 {σ : jw_H} {a b : Int} {s : Int × Int × Int × Int} (h : jx_ffw σ s) (hd : a = b) : jx_ffw σ (jm_st a b s) := by
  unfold jm_st
  rw [if_neg (by omega), if_neg (by omega)]
  exact h
theorem jx_ffw_le {σ : jw_H} {s : Int × Int × Int × Int} (h : jx_ffw σ s) (hs : jm_sb s) : σ 94 0 * σ 93 1 < σ 93 0 * σ 94 1 ↔ ¬ jm_le s := by
  obtain ⟨s1, s2, s3, s4⟩ := s
  obtain ⟨⟨h1, h2⟩, h3, h4⟩ := h
  have hs4 := hs.2.2.2.1
  have hs2 := hs.2.1.1
  dsimp only at *
  rw [h1, h2, h3, h4, jx_fr_lt hs4, jx_fr_gt hs2]
  unfold jm_le
  dsimp only
  omega
theorem jx_ff_loop {n : Nat} {σ0 : jw_H} {o : Nat} {C : List (ge_R × Int)} (hK0 : jx_K n o C σ0) (h2 : σ0 103 4 = 2) {i : Int} (i0 : 0 ≤ i) (i1 : i < σ0 103 56) : ∀ (f : Nat) {σ : jw_H} {j : Int} {a5 a7 : Option jw_V}, 0 ≤ j → j + f = σ0 103 56 → jx_f93 σ0 σ → jx_ffw σ (jm_sh (jm_mw σ0 0 i) (jm_mw σ0 1 i) (j).toNat) → (∀ c, 0 ≤ c → c < j → jm_mw σ0 0 i c = jm_mw σ0 1 i c → 0 ≤ jm_mw σ0 1 i c) → jw_W (js_S n) 3 md_90 16 [some (.inr (.inr 92)), some (.inr (.inr 57)), some (.inl i), some (.inr (.inr (o + 1))), some (.inl j), a5, none, a7, none] [] σ (fun r σ' => ∃ v, r = some (.inl v) ∧ jx_f93 σ0 σ' ∧ (v = 1 ∧ jx_ffw σ' (jm_shn σ0 i) ∧ jm_hsn σ0 i ∨ v = 0 ∧ ¬ jm_hsn σ0 i))
  | f, σ, j, a5, a7, j0, hk, HZ, hfw, H => by
    have ih : ∀ {σ' : jw_H} {a5' a7' : Option jw_V}, j < σ0 103 56 → jx_f93 σ0 σ' → jx_ffw σ' (jm_sh (jm_mw σ0 0 i) (jm_mw σ0 1 i) (j + 1).toNat) → (∀ c, 0 ≤ c → c < j + 1 → jm_mw σ0 0 i c = jm_mw σ0 1 i c → 0 ≤ jm_mw σ0 1 i c) → jw_W (js_S n) 3 md_90 16 [some (.inr (.inr 92)), some (.inr (.inr 57)), some (.inl i), some (.inr (.inr (o + 1))), some (.inl (j + 1)), a5', none, a7', none] [] σ' (fun r σ' => ∃ v, r = some (.inl v) ∧ jx_f93 σ0 σ' ∧ (v = 1 ∧ jx_ffw σ' (jm_shn σ0 i) ∧ jm_hsn σ0 i ∨ v = 0 ∧ ¬ jm_hsn σ0 i)) := by
      intro σ' a5' a7' g1 g2 g3 g4
      match f, hk with
      | 0, hk => omega
      | f + 1, hk => exact jx_ff_loop hK0 h2 i0 i1 f (by omega) (by omega) g2 g3 g4
    have hP0 := hK0.2.1.1.1
    have hcb0 := (jm_kw_cbd hK0.2.1.1).2 σ0 (jm_fk_rf σ0)
    have hfy := jx_f93_y HZ
    have hme := jx_fx_me (jx_fy_x hfy)
    have hK := jx_K_y hfy hK0
    have e103 := hme 103 (by omega)
    have e4 : σ 103 4 = σ0 103 4 := by rw [e103]
    have e56 : σ 103 56 = σ0 103 56 := by rw [e103]
    have hsb := jm_shb hP0 hcb0 h2 i0 i1 j0 (show j ≤ σ0 103 56 by omega)
    have hbd := jx_ffw_bd hfw hsb
    have hP0w := hP0.2.1
    have hI := hK.1
    obtain ⟨hto, hfo, hp, hP, e0, e1, e2, hPm, hcb, c0, p0, -⟩ := jx_I0_x hI
    have ho := hp.1
    have hq := hP.1
    have hw := hP.2.1
    have hq2 := hP.2.2.1
    have hcn := hcb.1
    refine jw_W_n 2 (i' := 18) (ls' := [some (.inr (.inr 92)), some (.inr (.inr 57)), some (.inl i), some (.inr (.inr (o + 1))), some (.inl j), a5, none, a7, none]) (st' := [.inr (.inr 57), .inl j]) rfl ?_
    refine jw_W_gf rfl rfl rfl ?_
    show jw_W (js_S n) _ md_90 19 [some (.inr (.inr 92)), some (.inr (.inr 57)), some (.inl i), some (.inr (.inr (o + 1))), some (.inl j), a5, none, a7, none] [.inl (σ 57 0), .inl j] σ _
    refine jw_W_ic rfl (by unfold jw_rg; omega) (by unfold jw_rg; omega) (fun hc1 => ?_) (fun hc1 => ?_)
    · have hc1 : j ≥ (σ 57 0) := hc1
      refine jw_W_n 1 (i' := 89) (ls' := [some (.inr (.inr 92)), some (.inr (.inr 57)), some (.inl i), some (.inr (.inr (o + 1))), some (.inl j), a5, none, a7, none]) (st' := [.inr (.inr 92)]) rfl ?_
      refine jw_W_gf rfl rfl rfl ?_
      show jw_W (js_S n) _ md_90 90 [some (.inr (.inr 92)), some (.inr (.inr 57)), some (.inl i), some (.inr (.inr (o + 1))), some (.inl j), a5, none, a7, none] [.inr (.inr 94)] σ _
      refine jw_W_n 1 (i' := 91) (ls' := [some (.inr (.inr 92)), some (.inr (.inr 57)), some (.inl i), some (.inr (.inr (o + 1))), some (.inl j), a5, none, a7, none]) (st' := [.inr (.inr 92), .inr (.inr 94)]) rfl ?_
      refine jw_W_gf rfl rfl rfl ?_
      show jw_W (js_S n) _ md_90 92 [some (.inr (.inr 92)), some (.inr (.inr 57)), some (.inl i), some (.inr (.inr (o + 1))), some (.inl j), a5, none, a7, none] [.inr (.inr 93), .inr (.inr 94)] σ _
      refine jw_W_gf rfl rfl rfl ?_
      show jw_W (js_S n) _ md_90 93 [some (.inr (.inr 92)), some (.inr (.inr 57)), some (.inl i), some (.inr (.inr (o + 1))), some (.inl j), a5, none, a7, none] [.inr (.inl (σ 93 0)), .inr (.inr 94)] σ _
      refine jw_W_n 1 (i' := 94) (ls' := [some (.inr (.inr 92)), some (.inr (.inr 57)), some (.inl i), some (.inr (.inr (o + 1))), some (.inl j), a5, none, a7, none]) (st' := [.inr (.inr 92), .inr (.inl (σ 93 0)), .inr (.inr 94)]) rfl ?_
      refine jw_W_gf rfl rfl rfl ?_
      show jw_W (js_S n) _ md_90 95 [some (.inr (.inr 92)), some (.inr (.inr 57)), some (.inl i), some (.inr (.inr (o + 1))), some (.inl j), a5, none, a7, none] [.inr (.inr 93), .inr (.inl (σ 93 0)), .inr (.inr 94)] σ _
      refine jw_W_gf rfl rfl rfl ?_
      show jw_W (js_S n) _ md_90 96 [some (.inr (.inr 92)), some (.inr (.inr 57)), some (.inl i), some (.inr (.inr (o + 1))), some (.inl j), a5, none, a7, none] [.inr (.inl (σ 93 1)), .inr (.inl (σ 93 0)), .inr (.inr 94)] σ _
      refine jw_W_call (as := [.inr (.inr 94), .inr (.inl (σ 93 0)), .inr (.inl (σ 93 1))]) (rest := []) rfl rfl rfl rfl (Nat.le_of_ble_eq_true rfl) (.inr rfl) (jx_isBelow (jx_fo_94 n) (jx_bgm (by omega) (by omega)) (jx_bgm (by omega) (by omega))) (by omega) ?_ rfl
      rintro r1 σz (⟨rfl, hs, hbl⟩ | ⟨rfl, hs, hbl⟩)
      · rw [hs]
        show jw_W (js_S n) _ md_90 97 [some (.inr (.inr 92)), some (.inr (.inr 57)), some (.inl i), some (.inr (.inr (o + 1))), some (.inl j), a5, none, a7, none] [.inl 1] σ _
        refine jw_W_if rfl (by unfold jw_rg; omega) (fun hc2 => ?_) (fun hc2 => ?_)
        · clear hc2
          refine jw_W_n 1 (i' := 101) (ls' := [some (.inr (.inr 92)), some (.inr (.inr 57)), some (.inl i), some (.inr (.inr (o + 1))), some (.inl j), a5, none, a7, none]) (st' := [.inl 0]) rfl ?_
          refine jw_W_ir rfl ?_
          have hkl : j = σ0 103 56 := by omega
          subst hkl
          have hle := jx_ffw_le hfw hsb
          exact ⟨_, rfl, HZ, .inr ⟨rfl, fun hh => hle.mp hbl hh.2⟩⟩
        · exact absurd hc2 (show ¬ ¬ ((1 : Int) ≠ 0) by omega)
      · rw [hs]
        show jw_W (js_S n) _ md_90 97 [some (.inr (.inr 92)), some (.inr (.inr 57)), some (.inl i), some (.inr (.inr (o + 1))), some (.inl j), a5, none, a7, none] [.inl 0] σ _
        refine jw_W_if rfl (by unfold jw_rg; omega) (fun hc3 => ?_) (fun hc3 => ?_)
        · exact absurd hc3 (show ¬ ((0 : Int) ≠ 0) by omega)
        · clear hc3
          refine jw_W_n 2 (i' := 101) (ls' := [some (.inr (.inr 92)), some (.inr (.inr 57)), some (.inl i), some (.inr (.inr (o + 1))), some (.inl j), a5, none, a7, none]) (st' := [.inl 1]) rfl ?_
          refine jw_W_ir rfl ?_
          have hkl : j = σ0 103 56 := by omega
          subst hkl
          have hle := jx_ffw_le hfw hsb
          exact ⟨_, rfl, HZ, .inl ⟨rfl, hfw, H, Classical.not_not.mp (fun hh => hbl (hle.mpr hh))⟩⟩
    · have hc1 : ¬ (j ≥ (σ 57 0)) := hc1
      have hab := jm_mw_bd hP0 hcb0 (w := 0) (by omega) (by omega) i0 i1 j0 (show j < σ0 103 56 by omega)
      have hbb := jm_mw_bd hP0 hcb0 (w := 1) (by omega) (by omega) i0 i1 j0 (show j < σ0 103 56 by omega)
      obtain ⟨a, ea0⟩ : ∃ a, jm_mw σ0 0 i j = a := ⟨_, rfl⟩
      obtain ⟨b, eb0⟩ : ∃ b, jm_mw σ0 1 i j = b := ⟨_, rfl⟩
      rw [ea0] at hab
      rw [eb0] at hbb
      have ea : jm_mw σ 0 i j = a := by rw [jm_mw_me hme]; exact ea0
      have eb : jm_mw σ 1 i j = b := by rw [jm_mw_me hme]; exact eb0
      refine jw_W_n 1 (i' := 21) (ls' := [some (.inr (.inr 92)), some (.inr (.inr 57)), some (.inl i), some (.inr (.inr (o + 1))), some (.inl j), a5, none, a7, none]) (st' := [.inr (.inr 57)]) rfl ?_
      refine jw_W_gf rfl rfl rfl ?_
      show jw_W (js_S n) _ md_90 22 [some (.inr (.inr 92)), some (.inr (.inr 57)), some (.inl i), some (.inr (.inr (o + 1))), some (.inl j), a5, none, a7, none] [.inr (.inr 58)] σ _
      refine jw_W_n 4 (i' := 26) (ls' := [some (.inr (.inr 92)), some (.inr (.inr 57)), some (.inl i), some (.inr (.inr (o + 1))), some (.inl j), a5, none, a7, none]) (st' := [.inl 0, .inr (.inr (o + 1)), .inl i, .inl j, .inr (.inr 58)]) rfl ?_
      refine jw_W_call (as := [.inr (.inr 58), .inl j, .inl i, .inr (.inr (o + 1)), .inl 0]) (rest := []) rfl rfl rfl rfl (Nat.le_of_ble_eq_true rfl) (.inr rfl) (jx_chM hI i0 (by omega) j0 (by omega) (w := 0) (by omega) (by omega)) (by omega) ?_ rfl
      rintro r1 σz ⟨rfl, hs⟩
      rw [hs, ea]
      show jw_W (js_S n) _ md_90 27 [some (.inr (.inr 92)), some (.inr (.inr 57)), some (.inl i), some (.inr (.inr (o + 1))), some (.inl j), a5, none, a7, none] [.inr (.inl a)] σ _
      refine jw_W_n 2 (i' := 29) (ls' := [some (.inr (.inr 92)), some (.inr (.inr 57)), some (.inl i), some (.inr (.inr (o + 1))), some (.inl j), some (.inr (.inl a)), none, a7, none]) (st' := [.inr (.inr 57)]) rfl ?_
      refine jw_W_gf rfl rfl rfl ?_
      show jw_W (js_S n) _ md_90 30 [some (.inr (.inr 92)), some (.inr (.inr 57)), some (.inl i), some (.inr (.inr (o + 1))), some (.inl j), some (.inr (.inl a)), none, a7, none] [.inr (.inr 58)] σ _
      refine jw_W_n 4 (i' := 34) (ls' := [some (.inr (.inr 92)), some (.inr (.inr 57)), some (.inl i), some (.inr (.inr (o + 1))), some (.inl j), some (.inr (.inl a)), none, a7, none]) (st' := [.inl 3, .inr (.inr (o + 1)), .inl i, .inl j, .inr (.inr 58)]) rfl ?_
      refine jw_W_call (as := [.inr (.inr 58), .inl j, .inl i, .inr (.inr (o + 1)), .inl 3]) (rest := []) rfl rfl rfl rfl (Nat.le_of_ble_eq_true rfl) (.inr rfl) (jx_chM hI i0 (by omega) j0 (by omega) (w := 1) (by omega) (by omega)) (by omega) ?_ rfl
      rintro r1 σz ⟨rfl, hs⟩
      rw [hs, eb]
      show jw_W (js_S n) _ md_90 35 [some (.inr (.inr 92)), some (.inr (.inr 57)), some (.inl i), some (.inr (.inr (o + 1))), some (.inl j), some (.inr (.inl a)), none, a7, none] [.inr (.inl b)] σ _
      refine jw_W_n 3 (i' := 38) (ls' := [some (.inr (.inr 92)), some (.inr (.inr 57)), some (.inl i), some (.inr (.inr (o + 1))), some (.inl j), some (.inr (.inl a)), none, some (.inr (.inl b)), none]) (st' := [.inr (.inl b), .inr (.inl a)]) rfl ?_
      refine jw_W_lc rfl rfl (by unfold jw_rgl; omega) (by unfold jw_rgl; omega) (fun hc4 => ?_) (fun hc4 => ?_)
      · have hc4 : a ≤ b := hc4
        refine jw_W_n 2 (i' := 59) (ls' := [some (.inr (.inr 92)), some (.inr (.inr 57)), some (.inl i), some (.inr (.inr (o + 1))), some (.inl j), some (.inr (.inl a)), none, some (.inr (.inl b)), none]) (st' := [.inr (.inl b), .inr (.inl a)]) rfl ?_
        refine jw_W_lc rfl rfl (by unfold jw_rgl; omega) (by unfold jw_rgl; omega) (fun hc5 => ?_) (fun hc5 => ?_)
        · have hc5 : a ≥ b := hc5
          refine jw_W_n 2 (i' := 78) (ls' := [some (.inr (.inr 92)), some (.inr (.inr 57)), some (.inl i), some (.inr (.inr (o + 1))), some (.inl j), some (.inr (.inl a)), none, some (.inr (.inl b)), none]) (st' := [.inr (.inl b), .inr (.inl a)]) rfl ?_
          refine jw_W_lc rfl rfl (by unfold jw_rgl; omega) (by unfold jw_rgl; omega) (fun hc6 => ?_) (fun hc6 => ?_)
          · have hc6 : a ≠ b := hc6
            omega
          · have hc6 : a = b := Classical.not_not.mp hc6
            refine jw_W_n 2 (i' := 82) (ls' := [some (.inr (.inr 92)), some (.inr (.inr 57)), some (.inl i), some (.inr (.inr (o + 1))), some (.inl j), some (.inr (.inl a)), none, some (.inr (.inl b)), none]) (st' := [.inr (.inl 0), .inr (.inl a)]) rfl ?_
            refine jw_W_lc rfl rfl (by unfold jw_rgl; omega) (by unfold jw_rgl; omega) (fun hc7 => ?_) (fun hc7 => ?_)
            · have hc7 : a ≥ 0 := hc7
              refine jw_W_n 2 (i' := 16) (ls' := [some (.inr (.inr 92)), some (.inr (.inr 57)), some (.inl i), some (.inr (.inr (o + 1))), some (.inl (j + 1)), some (.inr (.inl a)), none, some (.inr (.inl b)), none]) (st' := []) rfl ?_
              refine ih (by omega) (HZ) (by rw [jm_sh_s j0, ea0, eb0]; exact jx_ffw_5 hfw (by omega)) (fun c c0 c1 => ?_)
              by_cases ec : c = j
              · rw [ec, ea0, eb0]
                omega
              · exact H c c0 (by omega)
            · have hc7 : ¬ (a ≥ 0) := hc7
              refine jw_W_n 1 (i' := 85) (ls' := [some (.inr (.inr 92)), some (.inr (.inr 57)), some (.inl i), some (.inr (.inr (o + 1))), some (.inl j), some (.inr (.inl a)), none, some (.inr (.inl b)), none]) (st' := [.inl 0]) rfl ?_
              refine jw_W_ir rfl ?_
              exact ⟨_, rfl, HZ, .inr ⟨rfl, fun hh => by have := hh.1 j j0 (by omega) (by omega); omega⟩⟩
        · have hc5 : ¬ (a ≥ b) := hc5
          refine jw_W_n 1 (i' := 62) (ls' := [some (.inr (.inr 92)), some (.inr (.inr 57)), some (.inl i), some (.inr (.inr (o + 1))), some (.inl j), some (.inr (.inl a)), none, some (.inr (.inl b)), none]) (st' := [.inr (.inr 92)]) rfl ?_
          refine jw_W_gf rfl rfl rfl ?_
          show jw_W (js_S n) _ md_90 63 [some (.inr (.inr 92)), some (.inr (.inr 57)), some (.inl i), some (.inr (.inr (o + 1))), some (.inl j), some (.inr (.inl a)), none, some (.inr (.inl b)), none] [.inr (.inr 94)] σ _
          refine jw_W_n 4 (i' := 67) (ls' := [some (.inr (.inr 92)), some (.inr (.inr 57)), some (.inl i), some (.inr (.inr (o + 1))), some (.inl j), some (.inr (.inl a)), none, some (.inr (.inl b)), none]) (st' := [.inr (.inl (b - a)), .inr (.inl b), .inr (.inr 94)]) rfl ?_
          refine jw_W_call (as := [.inr (.inr 94), .inr (.inl b), .inr (.inl (b - a))]) (rest := []) rfl rfl rfl rfl (Nat.le_of_ble_eq_true rfl) (.inr rfl) (jx_isBelow (jx_fo_94 n) (jx_bgm (by omega) (by omega)) (jx_bgm (by omega) (by omega))) (by omega) ?_ rfl
          rintro r1 σz (⟨rfl, hs, hbl⟩ | ⟨rfl, hs, hbl⟩)
          · rw [hs]
            show jw_W (js_S n) _ md_90 68 [some (.inr (.inr 92)), some (.inr (.inr 57)), some (.inl i), some (.inr (.inr (o + 1))), some (.inl j), some (.inr (.inl a)), none, some (.inr (.inl b)), none] [.inl 1] σ _
            refine jw_W_if rfl (by unfold jw_rg; omega) (fun hc8 => ?_) (fun hc8 => ?_)
            · clear hc8
              refine jw_W_n 2 (i' := 78) (ls' := [some (.inr (.inr 92)), some (.inr (.inr 57)), some (.inl i), some (.inr (.inr (o + 1))), some (.inl j), some (.inr (.inl a)), none, some (.inr (.inl b)), none]) (st' := [.inr (.inl b), .inr (.inl a)]) rfl ?_
              refine jw_W_lc rfl rfl (by unfold jw_rgl; omega) (by unfold jw_rgl; omega) (fun hc9 => ?_) (fun hc9 => ?_)
              · have hc9 : a ≠ b := hc9
                refine jw_W_n 2 (i' := 16) (ls' := [some (.inr (.inr 92)), some (.inr (.inr 57)), some (.inl i), some (.inr (.inr (o + 1))), some (.inl (j + 1)), some (.inr (.inl a)), none, some (.inr (.inl b)), none]) (st' := []) rfl ?_
                refine ih (by omega) (HZ) (by rw [jm_sh_s j0, ea0, eb0]; exact jx_ffw_4 hfw hsb (by omega) hbl) (fun c c0 c1 => ?_)
                by_cases ec : c = j
                · rw [ec, ea0, eb0]
                  omega
                · exact H c c0 (by omega)
              · have hc9 : a = b := Classical.not_not.mp hc9
                omega
            · exact absurd hc8 (show ¬ ¬ ((1 : Int) ≠ 0) by omega)
          · rw [hs]
            show jw_W (js_S n) _ md_90 68 [some (.inr (.inr 92)), some (.inr (.inr 57)), some (.inl i), some (.inr (.inr (o + 1))), some (.inl j), some (.inr (.inl a)), none, some (.inr (.inl b)), none] [.inl 0] σ _
            refine jw_W_if rfl (by unfold jw_rg; omega) (fun hc10 => ?_) (fun hc10 => ?_)
            · exact absurd hc10 (show ¬ ((0 : Int) ≠ 0) by omega)
            · clear hc10
              refine jw_W_n 1 (i' := 70) (ls' := [some (.inr (.inr 92)), some (.inr (.inr 57)), some (.inl i), some (.inr (.inr (o + 1))), some (.inl j), some (.inr (.inl a)), none, some (.inr (.inl b)), none]) (st' := [.inr (.inr 92)]) rfl ?_
              refine jw_W_gf rfl rfl rfl ?_
              show jw_W (js_S n) _ md_90 71 [some (.inr (.inr 92)), some (.inr (.inr 57)), some (.inl i), some (.inr (.inr (o + 1))), some (.inl j), some (.inr (.inl a)), none, some (.inr (.inl b)), none] [.inr (.inr 94)] σ _
              refine jw_W_n 4 (i' := 75) (ls' := [some (.inr (.inr 92)), some (.inr (.inr 57)), some (.inl i), some (.inr (.inr (o + 1))), some (.inl j), some (.inr (.inl a)), none, some (.inr (.inl b)), none]) (st' := [.inr (.inl (b - a)), .inr (.inl b), .inr (.inr 94)]) rfl ?_
              refine jw_W_call (as := [.inr (.inr 94), .inr (.inl b), .inr (.inl (b - a))]) (rest := []) rfl rfl rfl rfl (Nat.le_of_ble_eq_true rfl) (.inr rfl) (jx_set (jx_fo_94 n) (by unfold jm_bg; omega) (by unfold jm_bg; omega) (by omega)) (by omega) ?_ rfl
              rintro r1 σ1 ⟨rfl, hs⟩
              show jw_W (js_S n) _ md_90 76 [some (.inr (.inr 92)), some (.inr (.inr 57)), some (.inl i), some (.inr (.inr (o + 1))), some (.inl j), some (.inr (.inl a)), none, some (.inr (.inl b)), none] [] σ1 _
              refine jw_W_n 2 (i' := 78) (ls' := [some (.inr (.inr 92)), some (.inr (.inr 57)), some (.inl i), some (.inr (.inr (o + 1))), some (.inl j), some (.inr (.inl a)), none, some (.inr (.inl b)), none]) (st' := [.inr (.inl b), .inr (.inl a)]) rfl ?_
              refine jw_W_lc rfl rfl (by unfold jw_rgl; omega) (by unfold jw_rgl; omega) (fun hc11 => ?_) (fun hc11 => ?_)
              · have hc11 : a ≠ b := hc11
                refine jw_W_n 2 (i' := 16) (ls' := [some (.inr (.inr 92)), some (.inr (.inr 57)), some (.inl i), some (.inr (.inr (o + 1))), some (.inl (j + 1)), some (.inr (.inl a)), none, some (.inr (.inl b)), none]) (st' := []) rfl ?_
                refine ih (by omega) (by rw [hs]; exact jx_f93_fs HZ (by omega)) (by rw [jm_sh_s j0, ea0, eb0, hs]; exact jx_ffw_3 hfw hsb (by omega) hbl) (fun c c0 c1 => ?_)
                by_cases ec : c = j
                · rw [ec, ea0, eb0]
                  omega
                · exact H c c0 (by omega)
              · have hc11 : a = b := Classical.not_not.mp hc11
                omega
      · have hc4 : ¬ (a ≤ b) := hc4
        refine jw_W_n 1 (i' := 41) (ls' := [some (.inr (.inr 92)), some (.inr (.inr 57)), some (.inl i), some (.inr (.inr (o + 1))), some (.inl j), some (.inr (.inl a)), none, some (.inr (.inl b)), none]) (st' := [.inr (.inr 92)]) rfl ?_
        refine jw_W_gf rfl rfl rfl ?_
        show jw_W (js_S n) _ md_90 42 [some (.inr (.inr 92)), some (.inr (.inr 57)), some (.inl i), some (.inr (.inr (o + 1))), some (.inl j), some (.inr (.inl a)), none, some (.inr (.inl b)), none] [.inr (.inr 93)] σ _
        refine jw_W_n 5 (i' := 47) (ls' := [some (.inr (.inr 92)), some (.inr (.inr 57)), some (.inl i), some (.inr (.inr (o + 1))), some (.inl j), some (.inr (.inl a)), none, some (.inr (.inl b)), none]) (st' := [.inr (.inl (a - b)), .inr (.inl ((-b))), .inr (.inr 93)]) rfl ?_
        refine jw_W_call (as := [.inr (.inr 93), .inr (.inl ((-b))), .inr (.inl (a - b))]) (rest := []) rfl rfl rfl rfl (Nat.le_of_ble_eq_true rfl) (.inr rfl) (jx_isBelow (jx_fo_93 n) (jx_bgm (by omega) (by omega)) (jx_bgm (by omega) (by omega))) (by omega) ?_ rfl
        rintro r1 σz (⟨rfl, hs, hbl⟩ | ⟨rfl, hs, hbl⟩)
        · rw [hs]
          show jw_W (js_S n) _ md_90 48 [some (.inr (.inr 92)), some (.inr (.inr 57)), some (.inl i), some (.inr (.inr (o + 1))), some (.inl j), some (.inr (.inl a)), none, some (.inr (.inl b)), none] [.inl 1] σ _
          refine jw_W_if rfl (by unfold jw_rg; omega) (fun hc12 => ?_) (fun hc12 => ?_)
          · exact absurd hc12 (show ¬ ((1 : Int) = 0) by omega)
          · clear hc12
            refine jw_W_n 1 (i' := 50) (ls' := [some (.inr (.inr 92)), some (.inr (.inr 57)), some (.inl i), some (.inr (.inr (o + 1))), some (.inl j), some (.inr (.inl a)), none, some (.inr (.inl b)), none]) (st' := [.inr (.inr 92)]) rfl ?_
            refine jw_W_gf rfl rfl rfl ?_
            show jw_W (js_S n) _ md_90 51 [some (.inr (.inr 92)), some (.inr (.inr 57)), some (.inl i), some (.inr (.inr (o + 1))), some (.inl j), some (.inr (.inl a)), none, some (.inr (.inl b)), none] [.inr (.inr 93)] σ _
            refine jw_W_n 5 (i' := 56) (ls' := [some (.inr (.inr 92)), some (.inr (.inr 57)), some (.inl i), some (.inr (.inr (o + 1))), some (.inl j), some (.inr (.inl a)), none, some (.inr (.inl b)), none]) (st' := [.inr (.inl (a - b)), .inr (.inl ((-b))), .inr (.inr 93)]) rfl ?_
            refine jw_W_call (as := [.inr (.inr 93), .inr (.inl ((-b))), .inr (.inl (a - b))]) (rest := []) rfl rfl rfl rfl (Nat.le_of_ble_eq_true rfl) (.inr rfl) (jx_set (jx_fo_93 n) (by unfold jm_bg; omega) (by unfold jm_bg; omega) (by omega)) (by omega) ?_ rfl
            rintro r1 σ1 ⟨rfl, hs⟩
            show jw_W (js_S n) _ md_90 57 [some (.inr (.inr 92)), some (.inr (.inr 57)), some (.inl i), some (.inr (.inr (o + 1))), some (.inl j), some (.inr (.inl a)), none, some (.inr (.inl b)), none] [] σ1 _
            refine jw_W_n 2 (i' := 59) (ls' := [some (.inr (.inr 92)), some (.inr (.inr 57)), some (.inl i), some (.inr (.inr (o + 1))), some (.inl j), some (.inr (.inl a)), none, some (.inr (.inl b)), none]) (st' := [.inr (.inl b), .inr (.inl a)]) rfl ?_
            refine jw_W_lc rfl rfl (by unfold jw_rgl; omega) (by unfold jw_rgl; omega) (fun hc13 => ?_) (fun hc13 => ?_)
            · have hc13 : a ≥ b := hc13
              refine jw_W_n 2 (i' := 78) (ls' := [some (.inr (.inr 92)), some (.inr (.inr 57)), some (.inl i), some (.inr (.inr (o + 1))), some (.inl j), some (.inr (.inl a)), none, some (.inr (.inl b)), none]) (st' := [.inr (.inl b), .inr (.inl a)]) rfl ?_
              refine jw_W_lc rfl rfl (by unfold jw_rgl; omega) (by unfold jw_rgl; omega) (fun hc14 => ?_) (fun hc14 => ?_)
              · have hc14 : a ≠ b := hc14
                refine jw_W_n 2 (i' := 16) (ls' := [some (.inr (.inr 92)), some (.inr (.inr 57)), some (.inl i), some (.inr (.inr (o + 1))), some (.inl (j + 1)), some (.inr (.inl a)), none, some (.inr (.inl b)), none]) (st' := []) rfl ?_
                refine ih (by omega) (by rw [hs]; exact jx_f93_fs HZ (by omega)) (by rw [jm_sh_s j0, ea0, eb0, hs]; exact jx_ffw_1 hfw hsb (by omega) hbl) (fun c c0 c1 => ?_)
                by_cases ec : c = j
                · rw [ec, ea0, eb0]
                  omega
                · exact H c c0 (by omega)
              · have hc14 : a = b := Classical.not_not.mp hc14
                omega
            · have hc13 : ¬ (a ≥ b) := hc13
              omega
        · rw [hs]
          show jw_W (js_S n) _ md_90 48 [some (.inr (.inr 92)), some (.inr (.inr 57)), some (.inl i), some (.inr (.inr (o + 1))), some (.inl j), some (.inr (.inl a)), none, some (.inr (.inl b)), none] [.inl 0] σ _
          refine jw_W_if rfl (by unfold jw_rg; omega) (fun hc15 => ?_) (fun hc15 => ?_)
          · clear hc15
            refine jw_W_n 2 (i' := 59) (ls' := [some (.inr (.inr 92)), some (.inr (.inr 57)), some (.inl i), some (.inr (.inr (o + 1))), some (.inl j), some (.inr (.inl a)), none, some (.inr (.inl b)), none]) (st' := [.inr (.inl b), .inr (.inl a)]) rfl ?_
            refine jw_W_lc rfl rfl (by unfold jw_rgl; omega) (by unfold jw_rgl; omega) (fun hc16 => ?_) (fun hc16 => ?_)
            · have hc16 : a ≥ b := hc16
              refine jw_W_n 2 (i' := 78) (ls' := [some (.inr (.inr 92)), some (.inr (.inr 57)), some (.inl i), some (.inr (.inr (o + 1))), some (.inl j), some (.inr (.inl a)), none, some (.inr (.inl b)), none]) (st' := [.inr (.inl b), .inr (.inl a)]) rfl ?_
              refine jw_W_lc rfl rfl (by unfold jw_rgl; omega) (by unfold jw_rgl; omega) (fun hc17 => ?_) (fun hc17 => ?_)
              · have hc17 : a ≠ b := hc17
                refine jw_W_n 2 (i' := 16) (ls' := [some (.inr (.inr 92)), some (.inr (.inr 57)), some (.inl i), some (.inr (.inr (o + 1))), some (.inl (j + 1)), some (.inr (.inl a)), none, some (.inr (.inl b)), none]) (st' := []) rfl ?_
                refine ih (by omega) (HZ) (by rw [jm_sh_s j0, ea0, eb0]; exact jx_ffw_2 hfw hsb (by omega) hbl) (fun c c0 c1 => ?_)
                by_cases ec : c = j
                · rw [ec, ea0, eb0]
                  omega
                · exact H c c0 (by omega)
              · have hc17 : a = b := Classical.not_not.mp hc17
                omega
            · have hc16 : ¬ (a ≥ b) := hc16
              omega
          · exact absurd hc15 (show ¬ ¬ ((0 : Int) = 0) by omega)
theorem jx_findFor {n : Nat} {σ : jw_H} {o : Nat} {C : List (ge_R × Int)} (hK : jx_K n o C σ) {i : Int} (i0 : 0 ≤ i) (i1 : i < σ 103 56) (h2 : σ 103 4 = 2) : jw_T (js_S n) 4 90 [.inr (.inr 92), .inr (.inr 57), .inl i] σ (fun r σ' => ∃ v, r = some (.inl v) ∧ jx_f93 σ σ' ∧ (v = 1 ∧ jx_ffw σ' (jm_shn σ i) ∧ jm_hsn σ i ∨ v = 0 ∧ ¬ jm_hsn σ i)) := by
  refine jw_T_of (D := 3) (M := mm_90) rfl (Nat.le_of_ble_eq_true rfl) (ls0 := [some (.inr (.inr 92)), some (.inr (.inr 57)), some (.inl i), none, none, none, none, none, none]) rfl ?_ (by rintro _ _ ⟨v, rfl, -, ⟨rfl, -⟩ | ⟨rfl, -⟩⟩ <;> rfl)
  have hI := hK.1
  obtain ⟨hto, hfo, hp, hP, e0, e1, e2, hPm, hcb, c0, p0, -⟩ := jx_I0_x hI
  have ho := hp.1
  have hq := hP.1
  have hw := hP.2.1
  have hq2 := hP.2.2.1
  have hcn := hcb.1
  refine jw_W_n 1 (i' := 1) (ls' := [some (.inr (.inr 92)), some (.inr (.inr 57)), some (.inl i), none, none, none, none, none, none]) (st' := [.inr (.inr 57)]) rfl ?_
  refine jw_W_gf rfl rfl rfl ?_
  show jw_W (js_S n) _ md_90 2 [some (.inr (.inr 92)), some (.inr (.inr 57)), some (.inl i), none, none, none, none, none, none] [.inr (.inr ((σ 57 6).toNat))] σ _
  rw [hfo]
  refine jw_W_gf rfl hp.2.1 rfl ?_
  show jw_W (js_S n) _ md_90 3 [some (.inr (.inr 92)), some (.inr (.inr 57)), some (.inl i), none, none, none, none, none, none] [.inr (.inr (o + 1))] σ _
  refine jw_W_n 2 (i' := 5) (ls' := [some (.inr (.inr 92)), some (.inr (.inr 57)), some (.inl i), some (.inr (.inr (o + 1))), none, none, none, none, none]) (st' := [.inr (.inr 92)]) rfl ?_
  refine jw_W_gf rfl rfl rfl ?_
  show jw_W (js_S n) _ md_90 6 [some (.inr (.inr 92)), some (.inr (.inr 57)), some (.inl i), some (.inr (.inr (o + 1))), none, none, none, none, none] [.inr (.inr 93)] σ _
  refine jw_W_n 2 (i' := 8) (ls' := [some (.inr (.inr 92)), some (.inr (.inr 57)), some (.inl i), some (.inr (.inr (o + 1))), none, none, none, none, none]) (st' := [.inr (.inl 1), .inr (.inl 0), .inr (.inr 93)]) rfl ?_
  refine jw_W_call (as := [.inr (.inr 93), .inr (.inl 0), .inr (.inl 1)]) (rest := []) rfl rfl rfl rfl (Nat.le_of_ble_eq_true rfl) (.inr rfl) (jx_set (jx_fo_93 n) (by unfold jm_bg; omega) (by unfold jm_bg; omega) (by omega)) (by omega) ?_ rfl
  rintro r1 σ1 ⟨rfl, hs⟩
  have hs1 := hs
  clear hs
  show jw_W (js_S n) _ md_90 9 [some (.inr (.inr 92)), some (.inr (.inr 57)), some (.inl i), some (.inr (.inr (o + 1))), none, none, none, none, none] [] σ1 _
  refine jw_W_n 1 (i' := 10) (ls' := [some (.inr (.inr 92)), some (.inr (.inr 57)), some (.inl i), some (.inr (.inr (o + 1))), none, none, none, none, none]) (st' := [.inr (.inr 92)]) rfl ?_
  refine jw_W_gf rfl rfl rfl ?_
  show jw_W (js_S n) _ md_90 11 [some (.inr (.inr 92)), some (.inr (.inr 57)), some (.inl i), some (.inr (.inr (o + 1))), none, none, none, none, none] [.inr (.inr 94)] σ1 _
  refine jw_W_n 2 (i' := 13) (ls' := [some (.inr (.inr 92)), some (.inr (.inr 57)), some (.inl i), some (.inr (.inr (o + 1))), none, none, none, none, none]) (st' := [.inr (.inl 1), .inr (.inl 1), .inr (.inr 94)]) rfl ?_
  refine jw_W_call (as := [.inr (.inr 94), .inr (.inl 1), .inr (.inl 1)]) (rest := []) rfl rfl rfl rfl (Nat.le_of_ble_eq_true rfl) (.inr rfl) (jx_set (jx_fo_94 n) (by unfold jm_bg; omega) (by unfold jm_bg; omega) (by omega)) (by omega) ?_ rfl
  rintro r1 σ2 ⟨rfl, hs⟩
  have hs2 := hs
  have hf2 : jx_f93 σ σ2 := by rw [hs2, hs1]; exact jx_f93_fs (jx_f93_fs (jx_f93_rf σ) (.inl rfl)) (.inr rfl)
  have hme1 := jx_fx_me (jx_fy_x (jx_f93_y hf2))
  have hK1 := jx_K_y (jx_f93_y hf2) hK
  clear hs
  show jw_W (js_S n) _ md_90 14 [some (.inr (.inr 92)), some (.inr (.inr 57)), some (.inl i), some (.inr (.inr (o + 1))), none, none, none, none, none] [] σ2 _
  refine jw_W_n 2 (i' := 16) (ls' := [some (.inr (.inr 92)), some (.inr (.inr 57)), some (.inl i), some (.inr (.inr (o + 1))), some (.inl 0), none, none, none, none]) (st' := []) rfl ?_
  refine jw_W_mono (jx_ff_loop hK1 (by rw [hme1 103 (by omega)]; exact h2) i0 (by rw [hme1 103 (by omega)]; exact i1) (σ 103 56).toNat (j := 0) (by omega) (by rw [hme1 103 (by omega)]; omega) (jx_f93_rf _) (by rw [hs2, hs1]; exact ⟨⟨rfl, rfl⟩, rfl, rfl⟩) (fun c c0 c1 => by omega)) ?_
  rintro r σ' ⟨v, rfl, hf, hv⟩
  unfold jm_shn jm_hsn at hv
  rw [jm_mw_me hme1, jm_mw_me hme1, hme1 103 (by omega)] at hv
  exact ⟨v, rfl, jx_f93_tr hf2 hf, hv⟩
theorem jx_weights {n : Nat} {σ : jw_H} {o : Nat} {C : List (ge_R × Int)} (hK : jx_K n o C σ) {i w : Int} (hi : jw_rg i) (hw2 : jw_rg w) : jw_T (js_S n) 6 126 [.inr (.inr 13), .inl i, .inl w] σ (fun r σ' => r = some (.inr (.inl (jm_wta σ i w))) ∧ jx_fy σ σ') := by
  refine jw_T_of (D := 5) (M := mm_126) rfl (Nat.le_of_ble_eq_true rfl) (ls0 := [some (.inr (.inr 13)), some (.inl i), some (.inl w)]) rfl ?_ (by rintro _ _ ⟨rfl, -⟩; rfl)
  have hI := hK.1
  obtain ⟨hto, hfo, hp, hP, e0, e1, e2, hPm, hcb, c0, p0, -⟩ := jx_I0_x hI
  have ho := hp.1
  have hq := hP.1
  have hw := hP.2.1
  have hq2 := hP.2.2.1
  have hcn := hcb.1
  have rhi := hi
  unfold jw_rg at rhi
  have rhw2 := hw2
  unfold jw_rg at rhw2
  refine jw_W_n 1 (i' := 1) (ls' := [some (.inr (.inr 13)), some (.inl i), some (.inl w)]) (st' := [.inl i]) rfl ?_
  refine jw_W_if rfl (by unfold jw_rg; omega) (fun hc1 => ?_) (fun hc1 => ?_)
  · have hc1 : i < 0 := hc1
    refine jw_W_ld2 (z := (-1)) rfl rfl ?_
    refine jw_W_lr rfl ?_
    exact ⟨by unfold jm_wta; rw [if_pos (by omega)], jx_fy_rf σ⟩
  · have hc1 : ¬ (i < 0) := hc1
    refine jw_W_n 1 (i' := 3) (ls' := [some (.inr (.inr 13)), some (.inl i), some (.inl w)]) (st' := [.inl w]) rfl ?_
    refine jw_W_if rfl (by unfold jw_rg; omega) (fun hc2 => ?_) (fun hc2 => ?_)
    · have hc2 : w < 0 := hc2
      refine jw_W_ld2 (z := (-1)) rfl rfl ?_
      refine jw_W_lr rfl ?_
      exact ⟨by unfold jm_wta; rw [if_pos (by omega)], jx_fy_rf σ⟩
    · have hc2 : ¬ (w < 0) := hc2
      refine jw_W_n 2 (i' := 6) (ls' := [some (.inr (.inr 13)), some (.inl i), some (.inl w)]) (st' := [.inl 3, .inl w]) rfl ?_
      refine jw_W_ic rfl (by unfold jw_rg; omega) (by unfold jw_rg; omega) (fun hc3 => ?_) (fun hc3 => ?_)
      · have hc3 : w ≤ 3 := hc3
        refine jw_W_n 1 (i' := 10) (ls' := [some (.inr (.inr 13)), some (.inl i), some (.inl w)]) (st' := [.inr (.inr 13)]) rfl ?_
        refine jw_W_gf rfl rfl rfl ?_
        show jw_W (js_S n) _ md_126 11 [some (.inr (.inr 13)), some (.inl i), some (.inl w)] [.inr (.inr ((σ 13 2).toNat))] σ _
        rw [hto]
        refine jw_W_gf rfl hp.2.1 rfl ?_
        show jw_W (js_S n) _ md_126 12 [some (.inr (.inr 13)), some (.inl i), some (.inl w)] [.inl (σ o 1)] σ _
        refine jw_W_n 1 (i' := 13) (ls' := [some (.inr (.inr 13)), some (.inl i), some (.inl w)]) (st' := [.inl 2, .inl (σ o 1)]) rfl ?_
        refine jw_W_ic rfl (by unfold jw_rg; omega) (by unfold jw_rg; omega) (fun hc4 => ?_) (fun hc4 => ?_)
        · have hc4 : (σ o 1) = 2 := hc4
          refine jw_W_n 2 (i' := 18) (ls' := [some (.inr (.inr 13)), some (.inl i), some (.inl w)]) (st' := [.inr (.inr 13), .inl i]) rfl ?_
          refine jw_W_gf rfl rfl rfl ?_
          show jw_W (js_S n) _ md_126 19 [some (.inr (.inr 13)), some (.inl i), some (.inl w)] [.inr (.inr 57), .inl i] σ _
          refine jw_W_gf rfl rfl rfl ?_
          show jw_W (js_S n) _ md_126 20 [some (.inr (.inr 13)), some (.inl i), some (.inl w)] [.inl (σ 57 0), .inl i] σ _
          refine jw_W_ic rfl (by unfold jw_rg; omega) (by unfold jw_rg; omega) (fun hc5 => ?_) (fun hc5 => ?_)
          · have hc5 : i < (σ 57 0) := hc5
            refine jw_W_n 1 (i' := 24) (ls' := [some (.inr (.inr 13)), some (.inl i), some (.inl w)]) (st' := [.inr (.inr 13)]) rfl ?_
            refine jw_W_gf rfl rfl rfl ?_
            show jw_W (js_S n) _ md_126 25 [some (.inr (.inr 13)), some (.inl i), some (.inl w)] [.inr (.inr 92)] σ _
            refine jw_W_n 1 (i' := 26) (ls' := [some (.inr (.inr 13)), some (.inl i), some (.inl w)]) (st' := [.inr (.inr 13), .inr (.inr 92)]) rfl ?_
            refine jw_W_gf rfl rfl rfl ?_
            show jw_W (js_S n) _ md_126 27 [some (.inr (.inr 13)), some (.inl i), some (.inl w)] [.inr (.inr 57), .inr (.inr 92)] σ _
            refine jw_W_n 1 (i' := 28) (ls' := [some (.inr (.inr 13)), some (.inl i), some (.inl w)]) (st' := [.inl i, .inr (.inr 57), .inr (.inr 92)]) rfl ?_
            refine jw_W_call (as := [.inr (.inr 92), .inr (.inr 57), .inl i]) (rest := []) rfl rfl rfl rfl (Nat.le_of_ble_eq_true rfl) (.inr rfl) (jx_findFor hK (by omega) (by omega) (by omega)) (by omega) ?_ rfl
            rintro r1 σ1 ⟨v, rfl, hf, hv⟩
            have hv01 : v = 0 ∨ v = 1 := by rcases hv with ⟨e, -⟩ | ⟨e, -⟩ <;> omega
            have hsb : jm_sb (jm_shn σ i) := jm_shb hPm hcb (by omega) (by omega) (by omega) (by omega) (by omega)
            show jw_W (js_S n) _ md_126 29 [some (.inr (.inr 13)), some (.inl i), some (.inl w)] [.inl v] σ1 _
            refine jw_W_if rfl (by unfold jw_rg; omega) (fun hc6 => ?_) (fun hc6 => ?_)
            · have hc6 : v ≠ 0 := hc6
              have hv1 := hv.resolve_right (fun hh => by omega)
              obtain ⟨-, hst, hhs⟩ := hv1
              have hrm : (w < 2 → jw_rem w 2 = w) ∧ (2 ≤ w → jw_rem w 2 = w - 2) := by rcases (show w = 0 ∨ w = 1 ∨ w = 2 ∨ w = 3 by omega) with rfl | rfl | rfl | rfl <;> decide
              refine jw_W_n 2 (i' := 34) (ls' := [some (.inr (.inr 13)), some (.inl i), some (.inl w)]) (st' := [.inl 2, .inl w]) rfl ?_
              refine jw_W_ic rfl (by unfold jw_rg; omega) (by unfold jw_rg; omega) (fun hc7 => ?_) (fun hc7 => ?_)
              · have hc7 : w ≥ 2 := hc7
                refine jw_W_n 1 (i' := 40) (ls' := [some (.inr (.inr 13)), some (.inl i), some (.inl w)]) (st' := [.inr (.inr 13)]) rfl ?_
                refine jw_W_gf rfl rfl rfl ?_
                show jw_W (js_S n) _ md_126 41 [some (.inr (.inr 13)), some (.inl i), some (.inl w)] [.inr (.inr 92)] σ1 _
                refine jw_W_gf rfl rfl rfl ?_
                show jw_W (js_S n) _ md_126 42 [some (.inr (.inr 13)), some (.inl i), some (.inl w)] [.inr (.inr 94)] σ1 _
                refine jw_W_n 2 (i' := 44) (ls' := [some (.inr (.inr 13)), some (.inl i), some (.inl w)]) (st' := [.inl 2, .inl w, .inr (.inr 94)]) rfl ?_
                refine jw_W_irem rfl (by unfold jw_rg; omega) (by omega) ?_
                refine jw_W_call (as := [.inr (.inr 94), .inl (jw_rem w 2)]) (rest := []) rfl rfl rfl rfl (Nat.le_of_ble_eq_true rfl) (.inr rfl) (jx_part (jx_fo_94 n) (by unfold jw_rg; omega)) (by omega) ?_ rfl
                rintro r1 σz ⟨rfl, hs⟩
                rw [hs]
                show jw_W (js_S n) _ md_126 46 [some (.inr (.inr 13)), some (.inl i), some (.inl w)] [.inr (.inl (if jw_rem w 2 = 0 then σ1 94 0 else σ1 94 1))] σ1 _
                refine jw_W_lr rfl ?_
                have ee := jx_fr_of (u := (jm_shn σ i).2.2.1) (l := (jm_shn σ i).2.2.2) hsb.2.2.2.1
                have hL : (if jw_rem w 2 = 0 then σ1 94 0 else σ1 94 1) = jm_of (jm_shn σ i).2.2.1 (jm_shn σ i).2.2.2 (w - 2) := by
                  rw [hrm.2 (by omega), hst.2.1, hst.2.2, ee.1, ee.2]
                  rcases (show (w - 2) = 0 ∨ (w - 2) = 1 by omega) with e | e
                  · rw [e, if_pos rfl]
                  · rw [e, if_neg (by decide)]
                refine ⟨?_, jx_f93_y hf⟩
                rw [hL]
                unfold jm_wta
                rw [if_neg (by omega), if_neg (by omega), if_neg (by omega)]
                rw [jx_b_1 hhs, if_neg (by omega), if_neg (by omega)]
              · have hc7 : ¬ (w ≥ 2) := hc7
                refine jw_W_n 1 (i' := 36) (ls' := [some (.inr (.inr 13)), some (.inl i), some (.inl w)]) (st' := [.inr (.inr 13)]) rfl ?_
                refine jw_W_gf rfl rfl rfl ?_
                show jw_W (js_S n) _ md_126 37 [some (.inr (.inr 13)), some (.inl i), some (.inl w)] [.inr (.inr 92)] σ1 _
                refine jw_W_gf rfl rfl rfl ?_
                show jw_W (js_S n) _ md_126 38 [some (.inr (.inr 13)), some (.inl i), some (.inl w)] [.inr (.inr 93)] σ1 _
                refine jw_W_n 3 (i' := 44) (ls' := [some (.inr (.inr 13)), some (.inl i), some (.inl w)]) (st' := [.inl 2, .inl w, .inr (.inr 93)]) rfl ?_
                refine jw_W_irem rfl (by unfold jw_rg; omega) (by omega) ?_
                refine jw_W_call (as := [.inr (.inr 93), .inl (jw_rem w 2)]) (rest := []) rfl rfl rfl rfl (Nat.le_of_ble_eq_true rfl) (.inr rfl) (jx_part (jx_fo_93 n) (by unfold jw_rg; omega)) (by omega) ?_ rfl
                rintro r1 σz ⟨rfl, hs⟩
                rw [hs]
                show jw_W (js_S n) _ md_126 46 [some (.inr (.inr 13)), some (.inl i), some (.inl w)] [.inr (.inl (if jw_rem w 2 = 0 then σ1 93 0 else σ1 93 1))] σ1 _
                refine jw_W_lr rfl ?_
                have ee := jx_fr_of (u := (jm_shn σ i).1) (l := (jm_shn σ i).2.1) hsb.2.1.1
                have hL : (if jw_rem w 2 = 0 then σ1 93 0 else σ1 93 1) = jm_of (jm_shn σ i).1 (jm_shn σ i).2.1 w := by
                  rw [hrm.1 (by omega), hst.1.1, hst.1.2, ee.1, ee.2]
                  rcases (show w = 0 ∨ w = 1 by omega) with e | e
                  · rw [e, if_pos rfl]
                  · rw [e, if_neg (by decide)]
                refine ⟨?_, jx_f93_y hf⟩
                rw [hL]
                unfold jm_wta
                rw [if_neg (by omega), if_neg (by omega), if_neg (by omega)]
                rw [jx_b_1 hhs, if_neg (by omega), if_pos (by omega)]
            · have hc6 : v = 0 := Classical.not_not.mp hc6
              refine jw_W_ld2 (z := (-2)) rfl rfl ?_
              refine jw_W_lr rfl ?_
              have hn := (hv.resolve_left (fun hh => by omega)).2
              exact ⟨by unfold jm_wta; rw [if_neg (by omega), if_neg (by omega), if_neg (by omega)]; rw [jx_b_0 hn, if_pos rfl], jx_f93_y hf⟩
          · have hc5 : ¬ (i < (σ 57 0)) := hc5
            refine jw_W_ld2 (z := (-4)) rfl rfl ?_
            refine jw_W_lr rfl ?_
            exact ⟨by unfold jm_wta; rw [if_neg (by omega), if_neg (by omega), if_pos (by omega)], jx_fy_rf σ⟩
        · have hc4 : ¬ ((σ o 1) = 2) := hc4
          refine jw_W_ld2 (z := (-3)) rfl rfl ?_
          refine jw_W_lr rfl ?_
          exact ⟨by unfold jm_wta; rw [if_neg (by omega), if_pos (by omega)], jx_fy_rf σ⟩
      · have hc3 : ¬ (w ≤ 3) := hc3
        refine jw_W_ld2 (z := (-1)) rfl rfl ?_
        refine jw_W_lr rfl ?_
        exact ⟨by unfold jm_wta; rw [if_pos (by omega)], jx_fy_rf σ⟩

/-! ===== the reference's answer of better ===== -/
/-- the first by place of the corners with most of all wishes, no wish less than at a plan -/
def jm_bpt (σ : jw_H) (T : Int) (p u : ge_R) : Prop := ge_V (ge_up_R (jm_RR (σ 103 3) (jm_bT T (jm_bA σ))) (jm_F σ) p) u ∧ ge_g u = 1 ∧ ∀ v, ge_V (ge_up_R (jm_RR (σ 103 3) (jm_bT T (jm_bA σ))) (jm_F σ) p) v → ge_g v = 1 → jm_bs σ u v
theorem jm_cb_best {σ σ1 : jw_H} {T b : Int} {p : ge_R} (H : jm_cb σ T p σ1 (σ 103 4)) (b0 : 0 ≤ b) (bl : b < σ1 103 46) (hb : ∀ i, 0 ≤ i → i < σ1 103 46 → jm_bs σ1 (jm_pt σ1 b) (jm_pt σ1 i)) : jm_bpt σ T p (jm_pt σ1 b) := by
  obtain ⟨fr, L, hI, hBd, -⟩ := H
  have e3 : σ1 103 3 = σ 103 3 := fr.2 3 (by omega)
  rw [e3] at hBd
  have h3 : b.toNat < L.length := by have := hI.1; omega
  have e := (hI.2 _ _ (List.getElem?_eq_getElem h3)).1
  rw [Int.toNat_of_nonneg b0] at e
  obtain ⟨v1, v2, -⟩ := hBd.1 _ (List.getElem_mem h3)
  rw [← e] at v1 v2
  refine ⟨(ge_V_iff jm_wb_up _).mp v1, v2, fun v hv hg => ?_⟩
  obtain ⟨x', hx', he⟩ := hBd.2.1 v ((ge_V_iff jm_wb_up _).mpr hv)
  have w1 := (hBd.1 x' hx').1.1.1
  have w2 := hv.1.1
  have ev : x'.1 = v := (ge_pp_eq (hBd.1 x' hx').2.1 w1 w2 he).trans (ge_pp_eq hg w2 w2 ⟨rfl, rfl, rfl⟩).symm
  obtain ⟨i, hi⟩ := List.getElem?_of_mem hx'
  have hil := (List.getElem?_eq_some_iff.mp hi).1
  have h9 := hb (i : Int) (by omega) (by rw [hI.1]; omega)
  rw [(hI.2 i x' hi).1, ev] at h9
  unfold jm_bs at h9 ⊢
  rw [jm_Aw_fr fr, jm_Aw_fr fr] at h9
  exact h9
def jm_co (u : ge_R) (q : Int) : Int := if q = 0 then u.1 else if q = 1 then u.2.1 else u.2.2.1
/-- the answer of better -/
def jm_bta (σ : jw_H) (x y z j v : Int) : Prop := (v = -1 ∧ ¬ (jm_ip σ x y z ∧ 0 ≤ j ∧ j < 2 * σ 103 3)) ∨ ((jm_ip σ x y z ∧ 0 ≤ j ∧ j < 2 * σ 103 3) ∧ ((v = -2 ∧ ¬ ge_F (jm_RR (σ 103 3) (jm_bA σ)) (x, y, z, 1)) ∨ (ge_F (jm_RR (σ 103 3) (jm_bA σ)) (x, y, z, 1) ∧ ∃ u, jm_bpt σ 1 (x, y, z, 1) u ∧ v = jm_of (jm_co u (j / 2)) u.2.2.2 (j % 2))))
theorem jm_better {n : Nat} {σ : jw_H} {x y z j : Int} {C : List (ge_R × Int)} (hP : jm_Pb σ) (hN : jm_Ns σ) (hK : jm_kn σ C) (hx : jw_rg x) (hy : jw_rg y) (hz : jw_rg z) (hj : jw_rg j) : jw_T (js_S n) 6 306 [.inr (.inr 103), .inl x, .inl y, .inl z, .inl j] σ (fun r σ' => ∃ v, r = some (.inr (.inl v)) ∧ (σ' = σ ∨ jm_fe σ σ') ∧ jm_bta σ x y z j v) := by
  refine jw_T_of (D := 5) (M := mm_306) rfl (Nat.le_of_ble_eq_true rfl) (ls0 := [some (.inr (.inr 103)), some (.inl x), some (.inl y), some (.inl z), some (.inl j), none]) rfl ?_ (by rintro _ _ ⟨_, rfl, -⟩; rfl)
  have hq := hP.1
  have rhx := hx
  unfold jw_rg at rhx
  have rhy := hy
  unfold jw_rg at rhy
  have rhz := hz
  unfold jw_rg at rhz
  have rhj := hj
  unfold jw_rg at rhj
  refine jw_W_n 4 (i' := 4) (ls' := [some (.inr (.inr 103)), some (.inl x), some (.inl y), some (.inl z), some (.inl j), none]) (st' := [.inl z, .inl y, .inl x, .inr (.inr 103)]) rfl ?_
  refine jw_W_call (as := [.inr (.inr 103), .inl x, .inl y, .inl z]) (rest := []) rfl rfl rfl rfl (Nat.le_of_ble_eq_true rfl) (.inr rfl) (jm_isPlan hP hx hy hz) (by omega) ?_ rfl
  rintro r1 σ1 (⟨rfl, hs, hip⟩ | ⟨rfl, hs, hip⟩)
  · rw [hs]
    have hip2 := hip
    unfold jm_ip at hip2
    show jw_W (js_S n) _ md_306 5 [some (.inr (.inr 103)), some (.inl x), some (.inl y), some (.inl z), some (.inl j), none] [.inl 1] σ _
    refine jw_W_if rfl (by unfold jw_rg; omega) (fun hc1 => ?_) (fun hc1 => ?_)
    · exact absurd hc1 (show ¬ ((1 : Int) = 0) by omega)
    · clear hc1
      refine jw_W_n 4 (i' := 10) (ls' := [some (.inr (.inr 103)), some (.inl x), some (.inl y), some (.inl z), some (.inl j), none]) (st' := [.inr (.inr 103), .inl 2, .inl 0, .inl j]) rfl ?_
      refine jw_W_gf rfl rfl rfl ?_
      show jw_W (js_S n) _ md_306 11 [some (.inr (.inr 103)), some (.inl x), some (.inl y), some (.inl z), some (.inl j), none] [.inl (σ 103 3), .inl 2, .inl 0, .inl j] σ _
      refine jw_W_n 3 (i' := 14) (ls' := [some (.inr (.inr 103)), some (.inl x), some (.inl y), some (.inl z), some (.inl j), none]) (st' := [.inl ((2 * (σ 103 3)) - 1), .inl 0, .inl j]) rfl ?_
      refine jw_W_call (as := [.inl j, .inl 0, .inl ((2 * (σ 103 3)) - 1)]) (rest := []) rfl rfl rfl rfl (Nat.le_of_ble_eq_true rfl) (.inl rfl) (jm_in (by unfold jw_rg; omega) (by unfold jw_rg; omega) (by unfold jw_rg; omega)) (by omega) ?_ rfl
      rintro r1 σ1 (⟨rfl, hs, q1⟩ | ⟨rfl, hs, q1⟩)
      · rw [hs]
        show jw_W (js_S n) _ md_306 15 [some (.inr (.inr 103)), some (.inl x), some (.inl y), some (.inl z), some (.inl j), none] [.inl 1] σ _
        refine jw_W_if rfl (by unfold jw_rg; omega) (fun hc2 => ?_) (fun hc2 => ?_)
        · clear hc2
          refine jw_W_n 4 (i' := 22) (ls' := [some (.inr (.inr 103)), some (.inl x), some (.inl y), some (.inl z), some (.inl j), none]) (st' := [.inl z, .inl y, .inl x, .inr (.inr 103)]) rfl ?_
          refine jw_W_call (as := [.inr (.inr 103), .inl x, .inl y, .inl z]) (rest := []) rfl rfl rfl rfl (Nat.le_of_ble_eq_true rfl) (.inr rfl) (jm_isAllowed hP hip) (by omega) ?_ rfl
          rintro r1 σ1 (⟨rfl, hs, hal⟩ | ⟨rfl, hs, hal⟩)
          · rw [hs]
            show jw_W (js_S n) _ md_306 23 [some (.inr (.inr 103)), some (.inl x), some (.inl y), some (.inl z), some (.inl j), none] [.inl 1] σ _
            refine jw_W_if rfl (by unfold jw_rg; omega) (fun hc3 => ?_) (fun hc3 => ?_)
            · clear hc3
              refine jw_W_n 2 (i' := 28) (ls' := [some (.inr (.inr 103)), some (.inl x), some (.inl y), some (.inl z), some (.inl j), none]) (st' := [.inl x, .inr (.inr 103)]) rfl ?_
              refine jw_W_i2l rfl (by unfold jw_rg; omega) ?_
              refine jw_W_n 1 (i' := 30) (ls' := [some (.inr (.inr 103)), some (.inl x), some (.inl y), some (.inl z), some (.inl j), none]) (st' := [.inl y, .inr (.inl x), .inr (.inr 103)]) rfl ?_
              refine jw_W_i2l rfl (by unfold jw_rg; omega) ?_
              refine jw_W_n 1 (i' := 32) (ls' := [some (.inr (.inr 103)), some (.inl x), some (.inl y), some (.inl z), some (.inl j), none]) (st' := [.inl z, .inr (.inl y), .inr (.inl x), .inr (.inr 103)]) rfl ?_
              refine jw_W_i2l rfl (by unfold jw_rg; omega) ?_
              refine jw_W_n 1 (i' := 34) (ls' := [some (.inr (.inr 103)), some (.inl x), some (.inl y), some (.inl z), some (.inl j), none]) (st' := [.inr (.inl 1), .inr (.inl z), .inr (.inl y), .inr (.inl x), .inr (.inr 103)]) rfl ?_
              refine jw_W_call (as := [.inr (.inr 103), .inr (.inl x), .inr (.inl y), .inr (.inl z), .inr (.inl 1)]) (rest := []) rfl rfl rfl rfl (Nat.le_of_ble_eq_true rfl) (.inr rfl) (jm_cutsBelow hP hN hK (by omega) (by omega) (by omega) (by omega) (by omega)) (by omega) ?_ rfl
              rintro r1 σ1 ⟨rfl, hI⟩
              rename jw_H => σ3
              obtain ⟨hpb, hm⟩ := jm_cb_pb hP (by omega) (by omega) hI
              have hP1 := jm_fr2_Pb hI.1 hP
              show jw_W (js_S n) _ md_306 35 [some (.inr (.inr 103)), some (.inl x), some (.inl y), some (.inl z), some (.inl j), none] [] σ3 _
              refine jw_W_n 1 (i' := 36) (ls' := [some (.inr (.inr 103)), some (.inl x), some (.inl y), some (.inl z), some (.inl j), none]) (st' := [.inr (.inr 103)]) rfl ?_
              refine jw_W_call (as := [.inr (.inr 103)]) (rest := []) rfl rfl rfl rfl (Nat.le_of_ble_eq_true rfl) (.inr rfl) (jm_mostWished hP1 hpb) (by omega) ?_ rfl
              rintro r1 σ1 ⟨b, rfl, hs, b0, bm, hb⟩
              rw [hs]
              have bl := (jm_eff_eq hP hI.1 (by omega) hal hm b0 bm hb).2
              have hbest := jm_cb_best hI b0 bl hb
              obtain ⟨⟨⟨o1, o2⟩, ⟨o3, o4⟩, ⟨o5, o6⟩, o7, o8⟩, o9⟩ := hpb.2 b b0 bl
              simp only [jm_pt] at o1 o2 o3 o4 o5 o6 o7 o8 o9
              have hmm := hpb.1
              show jw_W (js_S n) _ md_306 37 [some (.inr (.inr 103)), some (.inl x), some (.inl y), some (.inl z), some (.inl j), none] [.inl b] σ3 _
              refine jw_W_n 3 (i' := 40) (ls' := [some (.inr (.inr 103)), some (.inl x), some (.inl y), some (.inl z), some (.inl j), some (.inl b)]) (st' := [.inl 2, .inl j]) rfl ?_
              refine jw_W_idiv rfl (by unfold jw_rg; omega) (by omega) ?_
              rw [(jm_half j (by omega) (by omega)).1]
              refine jw_W_if rfl (by unfold jw_rg; omega) (fun hc4 => ?_) (fun hc4 => ?_)
              · have hc4 : (j / 2) ≠ 0 := hc4
                refine jw_W_n 2 (i' := 49) (ls' := [some (.inr (.inr 103)), some (.inl x), some (.inl y), some (.inl z), some (.inl j), some (.inl b)]) (st' := [.inl 2, .inl j]) rfl ?_
                refine jw_W_idiv rfl (by unfold jw_rg; omega) (by omega) ?_
                rw [(jm_half j (by omega) (by omega)).1]
                refine jw_W_n 1 (i' := 51) (ls' := [some (.inr (.inr 103)), some (.inl x), some (.inl y), some (.inl z), some (.inl j), some (.inl b)]) (st' := [.inl 1, .inl (j / 2)]) rfl ?_
                refine jw_W_ic rfl (by unfold jw_rg; omega) (by unfold jw_rg; omega) (fun hc5 => ?_) (fun hc5 => ?_)
                · have hc5 : (j / 2) ≠ 1 := hc5
                  refine jw_W_n 1 (i' := 58) (ls' := [some (.inr (.inr 103)), some (.inl x), some (.inl y), some (.inl z), some (.inl j), some (.inl b)]) (st' := [.inr (.inr 103)]) rfl ?_
                  refine jw_W_gf rfl rfl rfl ?_
                  show jw_W (js_S n) _ md_306 59 [some (.inr (.inr 103)), some (.inl x), some (.inl y), some (.inl z), some (.inl j), some (.inl b)] [.inr (.inr 127)] σ3 _
                  refine jw_W_n 1 (i' := 60) (ls' := [some (.inr (.inr 103)), some (.inl x), some (.inl y), some (.inl z), some (.inl j), some (.inl b)]) (st' := [.inl b, .inr (.inr 127)]) rfl ?_
                  refine jw_W_la rfl rfl (by omega) (by omega) (by omega) ?_
                  show jw_W (js_S n) _ md_306 61 [some (.inr (.inr 103)), some (.inl x), some (.inl y), some (.inl z), some (.inl j), some (.inl b)] [.inr (.inl (σ3 127 b))] σ3 _
                  refine jw_W_n 1 (i' := 62) (ls' := [some (.inr (.inr 103)), some (.inl x), some (.inl y), some (.inl z), some (.inl j), some (.inl b)]) (st' := [.inr (.inr 103), .inr (.inl (σ3 127 b))]) rfl ?_
                  refine jw_W_gf rfl rfl rfl ?_
                  show jw_W (js_S n) _ md_306 63 [some (.inr (.inr 103)), some (.inl x), some (.inl y), some (.inl z), some (.inl j), some (.inl b)] [.inr (.inr 128), .inr (.inl (σ3 127 b))] σ3 _
                  refine jw_W_n 1 (i' := 64) (ls' := [some (.inr (.inr 103)), some (.inl x), some (.inl y), some (.inl z), some (.inl j), some (.inl b)]) (st' := [.inl b, .inr (.inr 128), .inr (.inl (σ3 127 b))]) rfl ?_
                  refine jw_W_la rfl rfl (by omega) (by omega) (by omega) ?_
                  show jw_W (js_S n) _ md_306 65 [some (.inr (.inr 103)), some (.inl x), some (.inl y), some (.inl z), some (.inl j), some (.inl b)] [.inr (.inl (σ3 128 b)), .inr (.inl (σ3 127 b))] σ3 _
                  refine jw_W_n 2 (i' := 67) (ls' := [some (.inr (.inr 103)), some (.inl x), some (.inl y), some (.inl z), some (.inl j), some (.inl b)]) (st' := [.inl 2, .inl j, .inr (.inl (σ3 128 b)), .inr (.inl (σ3 127 b))]) rfl ?_
                  refine jw_W_irem rfl (by unfold jw_rg; omega) (by omega) ?_
                  rw [(jm_half j (by omega) (by omega)).2]
                  refine jw_W_call (as := [.inr (.inl (σ3 127 b)), .inr (.inl (σ3 128 b)), .inl (j % 2)]) (rest := []) rfl rfl rfl rfl (Nat.le_of_ble_eq_true rfl) (.inl rfl) (jm_ofFr (by unfold jm_bg; omega) (by omega) (by omega) (by unfold jw_rg; omega)) (by omega) ?_ rfl
                  rintro r1 σ1 ⟨rfl, hs⟩
                  rw [hs]
                  show jw_W (js_S n) _ md_306 69 [some (.inr (.inr 103)), some (.inl x), some (.inl y), some (.inl z), some (.inl j), some (.inl b)] [.inr (.inl (jm_of (σ3 127 b) (σ3 128 b) (j % 2)))] σ3 _
                  refine jw_W_lr rfl ?_
                  exact ⟨_, rfl, .inr (jm_cb_fe hI), .inr ⟨⟨hip, by omega, by omega⟩, .inr ⟨hal, _, hbest, by unfold jm_co; first | rw [if_pos (by omega)]; rfl | rw [if_neg (by omega), if_pos (by omega)]; rfl | rw [if_neg (by omega), if_neg (by omega)]; rfl⟩⟩⟩
                · have hc5 : (j / 2) = 1 := Classical.not_not.mp hc5
                  refine jw_W_n 1 (i' := 53) (ls' := [some (.inr (.inr 103)), some (.inl x), some (.inl y), some (.inl z), some (.inl j), some (.inl b)]) (st' := [.inr (.inr 103)]) rfl ?_
                  refine jw_W_gf rfl rfl rfl ?_
                  show jw_W (js_S n) _ md_306 54 [some (.inr (.inr 103)), some (.inl x), some (.inl y), some (.inl z), some (.inl j), some (.inl b)] [.inr (.inr 126)] σ3 _
                  refine jw_W_n 1 (i' := 55) (ls' := [some (.inr (.inr 103)), some (.inl x), some (.inl y), some (.inl z), some (.inl j), some (.inl b)]) (st' := [.inl b, .inr (.inr 126)]) rfl ?_
                  refine jw_W_la rfl rfl (by omega) (by omega) (by omega) ?_
                  show jw_W (js_S n) _ md_306 56 [some (.inr (.inr 103)), some (.inl x), some (.inl y), some (.inl z), some (.inl j), some (.inl b)] [.inr (.inl (σ3 126 b))] σ3 _
                  refine jw_W_n 2 (i' := 62) (ls' := [some (.inr (.inr 103)), some (.inl x), some (.inl y), some (.inl z), some (.inl j), some (.inl b)]) (st' := [.inr (.inr 103), .inr (.inl (σ3 126 b))]) rfl ?_
                  refine jw_W_gf rfl rfl rfl ?_
                  show jw_W (js_S n) _ md_306 63 [some (.inr (.inr 103)), some (.inl x), some (.inl y), some (.inl z), some (.inl j), some (.inl b)] [.inr (.inr 128), .inr (.inl (σ3 126 b))] σ3 _
                  refine jw_W_n 1 (i' := 64) (ls' := [some (.inr (.inr 103)), some (.inl x), some (.inl y), some (.inl z), some (.inl j), some (.inl b)]) (st' := [.inl b, .inr (.inr 128), .inr (.inl (σ3 126 b))]) rfl ?_
                  refine jw_W_la rfl rfl (by omega) (by omega) (by omega) ?_
                  show jw_W (js_S n) _ md_306 65 [some (.inr (.inr 103)), some (.inl x), some (.inl y), some (.inl z), some (.inl j), some (.inl b)] [.inr (.inl (σ3 128 b)), .inr (.inl (σ3 126 b))] σ3 _
                  refine jw_W_n 2 (i' := 67) (ls' := [some (.inr (.inr 103)), some (.inl x), some (.inl y), some (.inl z), some (.inl j), some (.inl b)]) (st' := [.inl 2, .inl j, .inr (.inl (σ3 128 b)), .inr (.inl (σ3 126 b))]) rfl ?_
                  refine jw_W_irem rfl (by unfold jw_rg; omega) (by omega) ?_
                  rw [(jm_half j (by omega) (by omega)).2]
                  refine jw_W_call (as := [.inr (.inl (σ3 126 b)), .inr (.inl (σ3 128 b)), .inl (j % 2)]) (rest := []) rfl rfl rfl rfl (Nat.le_of_ble_eq_true rfl) (.inl rfl) (jm_ofFr (by unfold jm_bg; omega) (by omega) (by omega) (by unfold jw_rg; omega)) (by omega) ?_ rfl
                  rintro r1 σ1 ⟨rfl, hs⟩
                  rw [hs]
                  show jw_W (js_S n) _ md_306 69 [some (.inr (.inr 103)), some (.inl x), some (.inl y), some (.inl z), some (.inl j), some (.inl b)] [.inr (.inl (jm_of (σ3 126 b) (σ3 128 b) (j % 2)))] σ3 _
                  refine jw_W_lr rfl ?_
                  exact ⟨_, rfl, .inr (jm_cb_fe hI), .inr ⟨⟨hip, by omega, by omega⟩, .inr ⟨hal, _, hbest, by unfold jm_co; first | rw [if_pos (by omega)]; rfl | rw [if_neg (by omega), if_pos (by omega)]; rfl | rw [if_neg (by omega), if_neg (by omega)]; rfl⟩⟩⟩
              · have hc4 : (j / 2) = 0 := Classical.not_not.mp hc4
                refine jw_W_n 1 (i' := 43) (ls' := [some (.inr (.inr 103)), some (.inl x), some (.inl y), some (.inl z), some (.inl j), some (.inl b)]) (st' := [.inr (.inr 103)]) rfl ?_
                refine jw_W_gf rfl rfl rfl ?_
                show jw_W (js_S n) _ md_306 44 [some (.inr (.inr 103)), some (.inl x), some (.inl y), some (.inl z), some (.inl j), some (.inl b)] [.inr (.inr 125)] σ3 _
                refine jw_W_n 1 (i' := 45) (ls' := [some (.inr (.inr 103)), some (.inl x), some (.inl y), some (.inl z), some (.inl j), some (.inl b)]) (st' := [.inl b, .inr (.inr 125)]) rfl ?_
                refine jw_W_la rfl rfl (by omega) (by omega) (by omega) ?_
                show jw_W (js_S n) _ md_306 46 [some (.inr (.inr 103)), some (.inl x), some (.inl y), some (.inl z), some (.inl j), some (.inl b)] [.inr (.inl (σ3 125 b))] σ3 _
                refine jw_W_n 2 (i' := 62) (ls' := [some (.inr (.inr 103)), some (.inl x), some (.inl y), some (.inl z), some (.inl j), some (.inl b)]) (st' := [.inr (.inr 103), .inr (.inl (σ3 125 b))]) rfl ?_
                refine jw_W_gf rfl rfl rfl ?_
                show jw_W (js_S n) _ md_306 63 [some (.inr (.inr 103)), some (.inl x), some (.inl y), some (.inl z), some (.inl j), some (.inl b)] [.inr (.inr 128), .inr (.inl (σ3 125 b))] σ3 _
                refine jw_W_n 1 (i' := 64) (ls' := [some (.inr (.inr 103)), some (.inl x), some (.inl y), some (.inl z), some (.inl j), some (.inl b)]) (st' := [.inl b, .inr (.inr 128), .inr (.inl (σ3 125 b))]) rfl ?_
                refine jw_W_la rfl rfl (by omega) (by omega) (by omega) ?_
                show jw_W (js_S n) _ md_306 65 [some (.inr (.inr 103)), some (.inl x), some (.inl y), some (.inl z), some (.inl j), some (.inl b)] [.inr (.inl (σ3 128 b)), .inr (.inl (σ3 125 b))] σ3 _
                refine jw_W_n 2 (i' := 67) (ls' := [some (.inr (.inr 103)), some (.inl x), some (.inl y), some (.inl z), some (.inl j), some (.inl b)]) (st' := [.inl 2, .inl j, .inr (.inl (σ3 128 b)), .inr (.inl (σ3 125 b))]) rfl ?_
                refine jw_W_irem rfl (by unfold jw_rg; omega) (by omega) ?_
                rw [(jm_half j (by omega) (by omega)).2]
                refine jw_W_call (as := [.inr (.inl (σ3 125 b)), .inr (.inl (σ3 128 b)), .inl (j % 2)]) (rest := []) rfl rfl rfl rfl (Nat.le_of_ble_eq_true rfl) (.inl rfl) (jm_ofFr (by unfold jm_bg; omega) (by omega) (by omega) (by unfold jw_rg; omega)) (by omega) ?_ rfl
                rintro r1 σ1 ⟨rfl, hs⟩
                rw [hs]
                show jw_W (js_S n) _ md_306 69 [some (.inr (.inr 103)), some (.inl x), some (.inl y), some (.inl z), some (.inl j), some (.inl b)] [.inr (.inl (jm_of (σ3 125 b) (σ3 128 b) (j % 2)))] σ3 _
                refine jw_W_lr rfl ?_
                exact ⟨_, rfl, .inr (jm_cb_fe hI), .inr ⟨⟨hip, by omega, by omega⟩, .inr ⟨hal, _, hbest, by unfold jm_co; first | rw [if_pos (by omega)]; rfl | rw [if_neg (by omega), if_pos (by omega)]; rfl | rw [if_neg (by omega), if_neg (by omega)]; rfl⟩⟩⟩
            · exact absurd hc3 (show ¬ ¬ ((1 : Int) ≠ 0) by omega)
          · rw [hs]
            show jw_W (js_S n) _ md_306 23 [some (.inr (.inr 103)), some (.inl x), some (.inl y), some (.inl z), some (.inl j), none] [.inl 0] σ _
            refine jw_W_if rfl (by unfold jw_rg; omega) (fun hc6 => ?_) (fun hc6 => ?_)
            · exact absurd hc6 (show ¬ ((0 : Int) ≠ 0) by omega)
            · clear hc6
              refine jw_W_ld2 (z := (-2)) rfl rfl ?_
              refine jw_W_lr rfl ?_
              exact ⟨_, rfl, .inl rfl, .inr ⟨⟨hip, by omega, by omega⟩, .inl ⟨rfl, hal⟩⟩⟩
        · exact absurd hc2 (show ¬ ¬ ((1 : Int) ≠ 0) by omega)
      · rw [hs]
        show jw_W (js_S n) _ md_306 15 [some (.inr (.inr 103)), some (.inl x), some (.inl y), some (.inl z), some (.inl j), none] [.inl 0] σ _
        refine jw_W_if rfl (by unfold jw_rg; omega) (fun hc7 => ?_) (fun hc7 => ?_)
        · exact absurd hc7 (show ¬ ((0 : Int) ≠ 0) by omega)
        · clear hc7
          refine jw_W_ld2 (z := (-1)) rfl rfl ?_
          refine jw_W_lr rfl ?_
          exact ⟨_, rfl, .inl rfl, .inl ⟨rfl, fun hh => by first | exact hip hh.1 | omega⟩⟩
  · rw [hs]
    show jw_W (js_S n) _ md_306 5 [some (.inr (.inr 103)), some (.inl x), some (.inl y), some (.inl z), some (.inl j), none] [.inl 0] σ _
    refine jw_W_if rfl (by unfold jw_rg; omega) (fun hc8 => ?_) (fun hc8 => ?_)
    · clear hc8
      refine jw_W_ld2 (z := (-1)) rfl rfl ?_
      refine jw_W_lr rfl ?_
      exact ⟨_, rfl, .inl rfl, .inl ⟨rfl, fun hh => by first | exact hip hh.1 | omega⟩⟩
    · exact absurd hc8 (show ¬ ¬ ((0 : Int) = 0) by omega)

/-! ===== the reference's points by place; its corners ===== -/
theorem jm_byPlace {n : Nat} {σ : jw_H} {p q X : Int} (p0 : 0 ≤ p) (p1 : p < 64) (q0 : 0 ≤ q) (q1 : q < 64) (hp : jm_in4 X (jm_pt σ p)) (hq : jm_in4 X (jm_pt σ q)) (hX : X * X ≤ 9200000000000000000) : jw_T (js_S n) 2 244 [.inr (.inr 103), .inl p, .inl q] σ (fun r σ' => (r = some (.inl (-1)) ∧ σ' = σ ∧ ge_lt (jm_pt σ p) (jm_pt σ q) = true) ∨ (r = some (.inl 1) ∧ σ' = σ ∧ ge_lt (jm_pt σ q) (jm_pt σ p) = true) ∨ (r = some (.inl 0) ∧ σ' = σ ∧ ge_e (jm_pt σ p) (jm_pt σ q))) := by
  refine jw_T_of (D := 1) (M := mm_244) rfl (Nat.le_of_ble_eq_true rfl) (ls0 := [some (.inr (.inr 103)), some (.inl p), some (.inl q), none]) rfl ?_ (by rintro _ _ (⟨rfl, -⟩ | ⟨rfl, -⟩ | ⟨rfl, -⟩) <;> rfl)
  obtain ⟨i125p, i126p, i127p, wp⟩ := hp
  obtain ⟨i125q, i126q, i127q, wq⟩ := hq
  simp only [jm_pt] at i125p i126p i127p wp i125q i126q i127q wq
  have m125 := jm_ab (S := X) (X := X) i125p.1 i125p.2 (show 0 ≤ σ 128 q by omega) wq.2
  have n125 := jm_ab (S := X) (X := X) i125q.1 i125q.2 (show 0 ≤ σ 128 p by omega) wp.2
  have m126 := jm_ab (S := X) (X := X) i126p.1 i126p.2 (show 0 ≤ σ 128 q by omega) wq.2
  have n126 := jm_ab (S := X) (X := X) i126q.1 i126q.2 (show 0 ≤ σ 128 p by omega) wp.2
  have m127 := jm_ab (S := X) (X := X) i127p.1 i127p.2 (show 0 ≤ σ 128 q by omega) wq.2
  have n127 := jm_ab (S := X) (X := X) i127q.1 i127q.2 (show 0 ≤ σ 128 p by omega) wp.2
  refine jw_W_n 1 (i' := 1) (ls' := [some (.inr (.inr 103)), some (.inl p), some (.inl q), none]) (st' := [.inr (.inr 103)]) rfl ?_
  refine jw_W_gf rfl rfl rfl ?_
  show jw_W (js_S n) _ md_244 2 [some (.inr (.inr 103)), some (.inl p), some (.inl q), none] [.inr (.inr 125)] σ _
  refine jw_W_n 1 (i' := 3) (ls' := [some (.inr (.inr 103)), some (.inl p), some (.inl q), none]) (st' := [.inl p, .inr (.inr 125)]) rfl ?_
  refine jw_W_la rfl rfl (by omega) (by omega) (by omega) ?_
  show jw_W (js_S n) _ md_244 4 [some (.inr (.inr 103)), some (.inl p), some (.inl q), none] [.inr (.inl (σ 125 p))] σ _
  refine jw_W_n 1 (i' := 5) (ls' := [some (.inr (.inr 103)), some (.inl p), some (.inl q), none]) (st' := [.inr (.inr 103), .inr (.inl (σ 125 p))]) rfl ?_
  refine jw_W_gf rfl rfl rfl ?_
  show jw_W (js_S n) _ md_244 6 [some (.inr (.inr 103)), some (.inl p), some (.inl q), none] [.inr (.inr 128), .inr (.inl (σ 125 p))] σ _
  refine jw_W_n 1 (i' := 7) (ls' := [some (.inr (.inr 103)), some (.inl p), some (.inl q), none]) (st' := [.inl q, .inr (.inr 128), .inr (.inl (σ 125 p))]) rfl ?_
  refine jw_W_la rfl rfl (by omega) (by omega) (by omega) ?_
  show jw_W (js_S n) _ md_244 8 [some (.inr (.inr 103)), some (.inl p), some (.inl q), none] [.inr (.inl (σ 128 q)), .inr (.inl (σ 125 p))] σ _
  refine jw_W_n 2 (i' := 10) (ls' := [some (.inr (.inr 103)), some (.inl p), some (.inl q), none]) (st' := [.inr (.inr 103), .inr (.inl ((σ 125 p) * (σ 128 q)))]) rfl ?_
  refine jw_W_gf rfl rfl rfl ?_
  show jw_W (js_S n) _ md_244 11 [some (.inr (.inr 103)), some (.inl p), some (.inl q), none] [.inr (.inr 125), .inr (.inl ((σ 125 p) * (σ 128 q)))] σ _
  refine jw_W_n 1 (i' := 12) (ls' := [some (.inr (.inr 103)), some (.inl p), some (.inl q), none]) (st' := [.inl q, .inr (.inr 125), .inr (.inl ((σ 125 p) * (σ 128 q)))]) rfl ?_
  refine jw_W_la rfl rfl (by omega) (by omega) (by omega) ?_
  show jw_W (js_S n) _ md_244 13 [some (.inr (.inr 103)), some (.inl p), some (.inl q), none] [.inr (.inl (σ 125 q)), .inr (.inl ((σ 125 p) * (σ 128 q)))] σ _
  refine jw_W_n 1 (i' := 14) (ls' := [some (.inr (.inr 103)), some (.inl p), some (.inl q), none]) (st' := [.inr (.inr 103), .inr (.inl (σ 125 q)), .inr (.inl ((σ 125 p) * (σ 128 q)))]) rfl ?_
  refine jw_W_gf rfl rfl rfl ?_
  show jw_W (js_S n) _ md_244 15 [some (.inr (.inr 103)), some (.inl p), some (.inl q), none] [.inr (.inr 128), .inr (.inl (σ 125 q)), .inr (.inl ((σ 125 p) * (σ 128 q)))] σ _
  refine jw_W_n 1 (i' := 16) (ls' := [some (.inr (.inr 103)), some (.inl p), some (.inl q), none]) (st' := [.inl p, .inr (.inr 128), .inr (.inl (σ 125 q)), .inr (.inl ((σ 125 p) * (σ 128 q)))]) rfl ?_
  refine jw_W_la rfl rfl (by omega) (by omega) (by omega) ?_
  show jw_W (js_S n) _ md_244 17 [some (.inr (.inr 103)), some (.inl p), some (.inl q), none] [.inr (.inl (σ 128 p)), .inr (.inl (σ 125 q)), .inr (.inl ((σ 125 p) * (σ 128 q)))] σ _
  refine jw_W_n 1 (i' := 18) (ls' := [some (.inr (.inr 103)), some (.inl p), some (.inl q), none]) (st' := [.inr (.inl ((σ 125 q) * (σ 128 p))), .inr (.inl ((σ 125 p) * (σ 128 q)))]) rfl ?_
  refine jw_W_call (as := [.inr (.inl ((σ 125 p) * (σ 128 q))), .inr (.inl ((σ 125 q) * (σ 128 p)))]) (rest := []) rfl rfl rfl rfl (Nat.le_of_ble_eq_true rfl) (.inl rfl) (jm_compared (by unfold jw_rgl; omega) (by unfold jw_rgl; omega)) (by omega) ?_ rfl
  rintro r1 σ1 (⟨rfl, hs, q1⟩ | ⟨rfl, hs, q1⟩ | ⟨rfl, hs, q1⟩)
  · rw [hs]
    show jw_W (js_S n) _ md_244 19 [some (.inr (.inr 103)), some (.inl p), some (.inl q), none] [.inl ((-1))] σ _
    refine jw_W_n 2 (i' := 21) (ls' := [some (.inr (.inr 103)), some (.inl p), some (.inl q), some (.inl ((-1)))]) (st' := [.inl ((-1))]) rfl ?_
    refine jw_W_if rfl (by unfold jw_rg; omega) (fun hc1 => ?_) (fun hc1 => ?_)
    · clear hc1
      refine jw_W_n 1 (i' := 43) (ls' := [some (.inr (.inr 103)), some (.inl p), some (.inl q), some (.inl ((-1)))]) (st' := [.inl ((-1))]) rfl ?_
      refine jw_W_if rfl (by unfold jw_rg; omega) (fun hc2 => ?_) (fun hc2 => ?_)
      · exact absurd hc2 (show ¬ ((((-1 : Int))) = 0) by omega)
      · clear hc2
        refine jw_W_n 2 (i' := 65) (ls' := [some (.inr (.inr 103)), some (.inl p), some (.inl q), some (.inl ((-1)))]) (st' := [.inl ((-1))]) rfl ?_
        refine jw_W_ir rfl ?_
        exact .inl ⟨rfl, rfl, (ge_lt_iff _ _).mpr (by simp only [jm_pt]; omega)⟩
    · exact absurd hc1 (show ¬ ¬ ((((-1 : Int))) ≠ 0) by omega)
  · rw [hs]
    show jw_W (js_S n) _ md_244 19 [some (.inr (.inr 103)), some (.inl p), some (.inl q), none] [.inl 1] σ _
    refine jw_W_n 2 (i' := 21) (ls' := [some (.inr (.inr 103)), some (.inl p), some (.inl q), some (.inl 1)]) (st' := [.inl 1]) rfl ?_
    refine jw_W_if rfl (by unfold jw_rg; omega) (fun hc3 => ?_) (fun hc3 => ?_)
    · clear hc3
      refine jw_W_n 1 (i' := 43) (ls' := [some (.inr (.inr 103)), some (.inl p), some (.inl q), some (.inl 1)]) (st' := [.inl 1]) rfl ?_
      refine jw_W_if rfl (by unfold jw_rg; omega) (fun hc4 => ?_) (fun hc4 => ?_)
      · exact absurd hc4 (show ¬ ((1 : Int) = 0) by omega)
      · clear hc4
        refine jw_W_n 2 (i' := 65) (ls' := [some (.inr (.inr 103)), some (.inl p), some (.inl q), some (.inl 1)]) (st' := [.inl 1]) rfl ?_
        refine jw_W_ir rfl ?_
        exact .inr (.inl ⟨rfl, rfl, (ge_lt_iff _ _).mpr (by simp only [jm_pt]; omega)⟩)
    · exact absurd hc3 (show ¬ ¬ ((1 : Int) ≠ 0) by omega)
  · rw [hs]
    show jw_W (js_S n) _ md_244 19 [some (.inr (.inr 103)), some (.inl p), some (.inl q), none] [.inl 0] σ _
    refine jw_W_n 2 (i' := 21) (ls' := [some (.inr (.inr 103)), some (.inl p), some (.inl q), some (.inl 0)]) (st' := [.inl 0]) rfl ?_
    refine jw_W_if rfl (by unfold jw_rg; omega) (fun hc5 => ?_) (fun hc5 => ?_)
    · exact absurd hc5 (show ¬ ((0 : Int) ≠ 0) by omega)
    · clear hc5
      refine jw_W_n 1 (i' := 23) (ls' := [some (.inr (.inr 103)), some (.inl p), some (.inl q), some (.inl 0)]) (st' := [.inr (.inr 103)]) rfl ?_
      refine jw_W_gf rfl rfl rfl ?_
      show jw_W (js_S n) _ md_244 24 [some (.inr (.inr 103)), some (.inl p), some (.inl q), some (.inl 0)] [.inr (.inr 126)] σ _
      refine jw_W_n 1 (i' := 25) (ls' := [some (.inr (.inr 103)), some (.inl p), some (.inl q), some (.inl 0)]) (st' := [.inl p, .inr (.inr 126)]) rfl ?_
      refine jw_W_la rfl rfl (by omega) (by omega) (by omega) ?_
      show jw_W (js_S n) _ md_244 26 [some (.inr (.inr 103)), some (.inl p), some (.inl q), some (.inl 0)] [.inr (.inl (σ 126 p))] σ _
      refine jw_W_n 1 (i' := 27) (ls' := [some (.inr (.inr 103)), some (.inl p), some (.inl q), some (.inl 0)]) (st' := [.inr (.inr 103), .inr (.inl (σ 126 p))]) rfl ?_
      refine jw_W_gf rfl rfl rfl ?_
      show jw_W (js_S n) _ md_244 28 [some (.inr (.inr 103)), some (.inl p), some (.inl q), some (.inl 0)] [.inr (.inr 128), .inr (.inl (σ 126 p))] σ _
      refine jw_W_n 1 (i' := 29) (ls' := [some (.inr (.inr 103)), some (.inl p), some (.inl q), some (.inl 0)]) (st' := [.inl q, .inr (.inr 128), .inr (.inl (σ 126 p))]) rfl ?_
      refine jw_W_la rfl rfl (by omega) (by omega) (by omega) ?_
      show jw_W (js_S n) _ md_244 30 [some (.inr (.inr 103)), some (.inl p), some (.inl q), some (.inl 0)] [.inr (.inl (σ 128 q)), .inr (.inl (σ 126 p))] σ _
      refine jw_W_n 2 (i' := 32) (ls' := [some (.inr (.inr 103)), some (.inl p), some (.inl q), some (.inl 0)]) (st' := [.inr (.inr 103), .inr (.inl ((σ 126 p) * (σ 128 q)))]) rfl ?_
      refine jw_W_gf rfl rfl rfl ?_
      show jw_W (js_S n) _ md_244 33 [some (.inr (.inr 103)), some (.inl p), some (.inl q), some (.inl 0)] [.inr (.inr 126), .inr (.inl ((σ 126 p) * (σ 128 q)))] σ _
      refine jw_W_n 1 (i' := 34) (ls' := [some (.inr (.inr 103)), some (.inl p), some (.inl q), some (.inl 0)]) (st' := [.inl q, .inr (.inr 126), .inr (.inl ((σ 126 p) * (σ 128 q)))]) rfl ?_
      refine jw_W_la rfl rfl (by omega) (by omega) (by omega) ?_
      show jw_W (js_S n) _ md_244 35 [some (.inr (.inr 103)), some (.inl p), some (.inl q), some (.inl 0)] [.inr (.inl (σ 126 q)), .inr (.inl ((σ 126 p) * (σ 128 q)))] σ _
      refine jw_W_n 1 (i' := 36) (ls' := [some (.inr (.inr 103)), some (.inl p), some (.inl q), some (.inl 0)]) (st' := [.inr (.inr 103), .inr (.inl (σ 126 q)), .inr (.inl ((σ 126 p) * (σ 128 q)))]) rfl ?_
      refine jw_W_gf rfl rfl rfl ?_
      show jw_W (js_S n) _ md_244 37 [some (.inr (.inr 103)), some (.inl p), some (.inl q), some (.inl 0)] [.inr (.inr 128), .inr (.inl (σ 126 q)), .inr (.inl ((σ 126 p) * (σ 128 q)))] σ _
      refine jw_W_n 1 (i' := 38) (ls' := [some (.inr (.inr 103)), some (.inl p), some (.inl q), some (.inl 0)]) (st' := [.inl p, .inr (.inr 128), .inr (.inl (σ 126 q)), .inr (.inl ((σ 126 p) * (σ 128 q)))]) rfl ?_
      refine jw_W_la rfl rfl (by omega) (by omega) (by omega) ?_
      show jw_W (js_S n) _ md_244 39 [some (.inr (.inr 103)), some (.inl p), some (.inl q), some (.inl 0)] [.inr (.inl (σ 128 p)), .inr (.inl (σ 126 q)), .inr (.inl ((σ 126 p) * (σ 128 q)))] σ _
      refine jw_W_n 1 (i' := 40) (ls' := [some (.inr (.inr 103)), some (.inl p), some (.inl q), some (.inl 0)]) (st' := [.inr (.inl ((σ 126 q) * (σ 128 p))), .inr (.inl ((σ 126 p) * (σ 128 q)))]) rfl ?_
      refine jw_W_call (as := [.inr (.inl ((σ 126 p) * (σ 128 q))), .inr (.inl ((σ 126 q) * (σ 128 p)))]) (rest := []) rfl rfl rfl rfl (Nat.le_of_ble_eq_true rfl) (.inl rfl) (jm_compared (by unfold jw_rgl; omega) (by unfold jw_rgl; omega)) (by omega) ?_ rfl
      rintro r1 σ1 (⟨rfl, hs, q2⟩ | ⟨rfl, hs, q2⟩ | ⟨rfl, hs, q2⟩)
      · rw [hs]
        show jw_W (js_S n) _ md_244 41 [some (.inr (.inr 103)), some (.inl p), some (.inl q), some (.inl 0)] [.inl ((-1))] σ _
        refine jw_W_n 2 (i' := 43) (ls' := [some (.inr (.inr 103)), some (.inl p), some (.inl q), some (.inl ((-1)))]) (st' := [.inl ((-1))]) rfl ?_
        refine jw_W_if rfl (by unfold jw_rg; omega) (fun hc6 => ?_) (fun hc6 => ?_)
        · exact absurd hc6 (show ¬ ((((-1 : Int))) = 0) by omega)
        · clear hc6
          refine jw_W_n 2 (i' := 65) (ls' := [some (.inr (.inr 103)), some (.inl p), some (.inl q), some (.inl ((-1)))]) (st' := [.inl ((-1))]) rfl ?_
          refine jw_W_ir rfl ?_
          exact .inl ⟨rfl, rfl, (ge_lt_iff _ _).mpr (by simp only [jm_pt]; omega)⟩
      · rw [hs]
        show jw_W (js_S n) _ md_244 41 [some (.inr (.inr 103)), some (.inl p), some (.inl q), some (.inl 0)] [.inl 1] σ _
        refine jw_W_n 2 (i' := 43) (ls' := [some (.inr (.inr 103)), some (.inl p), some (.inl q), some (.inl 1)]) (st' := [.inl 1]) rfl ?_
        refine jw_W_if rfl (by unfold jw_rg; omega) (fun hc7 => ?_) (fun hc7 => ?_)
        · exact absurd hc7 (show ¬ ((1 : Int) = 0) by omega)
        · clear hc7
          refine jw_W_n 2 (i' := 65) (ls' := [some (.inr (.inr 103)), some (.inl p), some (.inl q), some (.inl 1)]) (st' := [.inl 1]) rfl ?_
          refine jw_W_ir rfl ?_
          exact .inr (.inl ⟨rfl, rfl, (ge_lt_iff _ _).mpr (by simp only [jm_pt]; omega)⟩)
      · rw [hs]
        show jw_W (js_S n) _ md_244 41 [some (.inr (.inr 103)), some (.inl p), some (.inl q), some (.inl 0)] [.inl 0] σ _
        refine jw_W_n 2 (i' := 43) (ls' := [some (.inr (.inr 103)), some (.inl p), some (.inl q), some (.inl 0)]) (st' := [.inl 0]) rfl ?_
        refine jw_W_if rfl (by unfold jw_rg; omega) (fun hc8 => ?_) (fun hc8 => ?_)
        · clear hc8
          refine jw_W_n 1 (i' := 47) (ls' := [some (.inr (.inr 103)), some (.inl p), some (.inl q), some (.inl 0)]) (st' := [.inr (.inr 103)]) rfl ?_
          refine jw_W_gf rfl rfl rfl ?_
          show jw_W (js_S n) _ md_244 48 [some (.inr (.inr 103)), some (.inl p), some (.inl q), some (.inl 0)] [.inr (.inr 127)] σ _
          refine jw_W_n 1 (i' := 49) (ls' := [some (.inr (.inr 103)), some (.inl p), some (.inl q), some (.inl 0)]) (st' := [.inl p, .inr (.inr 127)]) rfl ?_
          refine jw_W_la rfl rfl (by omega) (by omega) (by omega) ?_
          show jw_W (js_S n) _ md_244 50 [some (.inr (.inr 103)), some (.inl p), some (.inl q), some (.inl 0)] [.inr (.inl (σ 127 p))] σ _
          refine jw_W_n 1 (i' := 51) (ls' := [some (.inr (.inr 103)), some (.inl p), some (.inl q), some (.inl 0)]) (st' := [.inr (.inr 103), .inr (.inl (σ 127 p))]) rfl ?_
          refine jw_W_gf rfl rfl rfl ?_
          show jw_W (js_S n) _ md_244 52 [some (.inr (.inr 103)), some (.inl p), some (.inl q), some (.inl 0)] [.inr (.inr 128), .inr (.inl (σ 127 p))] σ _
          refine jw_W_n 1 (i' := 53) (ls' := [some (.inr (.inr 103)), some (.inl p), some (.inl q), some (.inl 0)]) (st' := [.inl q, .inr (.inr 128), .inr (.inl (σ 127 p))]) rfl ?_
          refine jw_W_la rfl rfl (by omega) (by omega) (by omega) ?_
          show jw_W (js_S n) _ md_244 54 [some (.inr (.inr 103)), some (.inl p), some (.inl q), some (.inl 0)] [.inr (.inl (σ 128 q)), .inr (.inl (σ 127 p))] σ _
          refine jw_W_n 2 (i' := 56) (ls' := [some (.inr (.inr 103)), some (.inl p), some (.inl q), some (.inl 0)]) (st' := [.inr (.inr 103), .inr (.inl ((σ 127 p) * (σ 128 q)))]) rfl ?_
          refine jw_W_gf rfl rfl rfl ?_
          show jw_W (js_S n) _ md_244 57 [some (.inr (.inr 103)), some (.inl p), some (.inl q), some (.inl 0)] [.inr (.inr 127), .inr (.inl ((σ 127 p) * (σ 128 q)))] σ _
          refine jw_W_n 1 (i' := 58) (ls' := [some (.inr (.inr 103)), some (.inl p), some (.inl q), some (.inl 0)]) (st' := [.inl q, .inr (.inr 127), .inr (.inl ((σ 127 p) * (σ 128 q)))]) rfl ?_
          refine jw_W_la rfl rfl (by omega) (by omega) (by omega) ?_
          show jw_W (js_S n) _ md_244 59 [some (.inr (.inr 103)), some (.inl p), some (.inl q), some (.inl 0)] [.inr (.inl (σ 127 q)), .inr (.inl ((σ 127 p) * (σ 128 q)))] σ _
          refine jw_W_n 1 (i' := 60) (ls' := [some (.inr (.inr 103)), some (.inl p), some (.inl q), some (.inl 0)]) (st' := [.inr (.inr 103), .inr (.inl (σ 127 q)), .inr (.inl ((σ 127 p) * (σ 128 q)))]) rfl ?_
          refine jw_W_gf rfl rfl rfl ?_
          show jw_W (js_S n) _ md_244 61 [some (.inr (.inr 103)), some (.inl p), some (.inl q), some (.inl 0)] [.inr (.inr 128), .inr (.inl (σ 127 q)), .inr (.inl ((σ 127 p) * (σ 128 q)))] σ _
          refine jw_W_n 1 (i' := 62) (ls' := [some (.inr (.inr 103)), some (.inl p), some (.inl q), some (.inl 0)]) (st' := [.inl p, .inr (.inr 128), .inr (.inl (σ 127 q)), .inr (.inl ((σ 127 p) * (σ 128 q)))]) rfl ?_
          refine jw_W_la rfl rfl (by omega) (by omega) (by omega) ?_
          show jw_W (js_S n) _ md_244 63 [some (.inr (.inr 103)), some (.inl p), some (.inl q), some (.inl 0)] [.inr (.inl (σ 128 p)), .inr (.inl (σ 127 q)), .inr (.inl ((σ 127 p) * (σ 128 q)))] σ _
          refine jw_W_n 1 (i' := 64) (ls' := [some (.inr (.inr 103)), some (.inl p), some (.inl q), some (.inl 0)]) (st' := [.inr (.inl ((σ 127 q) * (σ 128 p))), .inr (.inl ((σ 127 p) * (σ 128 q)))]) rfl ?_
          refine jw_W_call (as := [.inr (.inl ((σ 127 p) * (σ 128 q))), .inr (.inl ((σ 127 q) * (σ 128 p)))]) (rest := []) rfl rfl rfl rfl (Nat.le_of_ble_eq_true rfl) (.inl rfl) (jm_compared (by unfold jw_rgl; omega) (by unfold jw_rgl; omega)) (by omega) ?_ rfl
          rintro r1 σ1 (⟨rfl, hs, q3⟩ | ⟨rfl, hs, q3⟩ | ⟨rfl, hs, q3⟩)
          · rw [hs]
            show jw_W (js_S n) _ md_244 65 [some (.inr (.inr 103)), some (.inl p), some (.inl q), some (.inl 0)] [.inl ((-1))] σ _
            refine jw_W_ir rfl ?_
            exact .inl ⟨rfl, rfl, (ge_lt_iff _ _).mpr (by simp only [jm_pt]; omega)⟩
          · rw [hs]
            show jw_W (js_S n) _ md_244 65 [some (.inr (.inr 103)), some (.inl p), some (.inl q), some (.inl 0)] [.inl 1] σ _
            refine jw_W_ir rfl ?_
            exact .inr (.inl ⟨rfl, rfl, (ge_lt_iff _ _).mpr (by simp only [jm_pt]; omega)⟩)
          · rw [hs]
            show jw_W (js_S n) _ md_244 65 [some (.inr (.inr 103)), some (.inl p), some (.inl q), some (.inl 0)] [.inl 0] σ _
            refine jw_W_ir rfl ?_
            exact .inr (.inr ⟨rfl, rfl, by simp only [ge_e, jm_pt]; omega⟩)
        · exact absurd hc8 (show ¬ ¬ ((0 : Int) = 0) by omega)
/-- the store holds these corners -/
def jm_ct (σ : jw_H) (k : Int) : ge_R := (σ 132 k, σ 133 k, σ 134 k, σ 135 k)
def jm_cor (σ : jw_H) (C : List (ge_R × Int)) : Prop := σ 103 56 = (C.length : Int) ∧ ∀ (i : Nat) (x : ge_R × Int), C[i]? = some x → jm_ct σ (i : Int) = x.1 ∧ σ 136 (i : Int) = x.2
def jm_fr3 (σ σ' : jw_H) : Prop := (∀ o, (o < 132 ∨ 136 < o) → o ≠ 103 → σ' o = σ o) ∧ ∀ j, j ≠ 56 → σ' 103 j = σ 103 j
theorem jm_fr3_rf (σ : jw_H) : jm_fr3 σ σ := ⟨fun _ _ _ => rfl, fun _ _ => rfl⟩
theorem jm_fr3_up {σ σ' : jw_H} {o : Nat} {j v : Int} (a : jm_fr3 σ σ') (ho : 132 ≤ o ∧ o ≤ 136 ∨ o = 103 ∧ j = 56) : jm_fr3 σ (jw_up σ' o j v) := by
  refine ⟨fun o' h1 h2 => ?_, fun j' h => ?_⟩
  · rw [jw_up_out _ _ _ (by omega)]
    exact a.1 o' h1 h2
  · rw [jw_up_ne _ (by omega)]
    exact a.2 j' h
def jm_tc (σ0 : jw_H) (L : List (ge_R × Int)) (σ : jw_H) (k : Int) : Prop := jm_fr3 σ0 σ ∧ σ 103 56 = (L.length : Int) ∧ ∀ (i : Nat) (x : ge_R × Int), L[i]? = some x → (i : Int) < k → jm_ct σ (ge_rank L x.1 : Int) = x.1 ∧ σ 136 (ge_rank L x.1 : Int) = x.2
def jm_tcu (σ : jw_H) (r : Int) (x : ge_R × Int) : jw_H := jw_up (jw_up (jw_up (jw_up (jw_up σ 132 r x.1.1) 133 r x.1.2.1) 134 r x.1.2.2.1) 135 r x.1.2.2.2) 136 r x.2
theorem jm_tcu_ct (σ : jw_H) (r : Int) (x : ge_R × Int) (j : Int) : (jm_ct (jm_tcu σ r x) j = if j = r then x.1 else jm_ct σ j) ∧ jm_tcu σ r x 136 j = if j = r then x.2 else σ 136 j := by
  by_cases h : j = r
  · subst h
    rw [if_pos rfl, if_pos rfl]
    simp [jm_ct, jm_tcu, jw_up]
  · rw [if_neg h, if_neg h]
    simp [jm_ct, jm_tcu, jw_up, h]
theorem jm_tc_s {σ0 σ : jw_H} {L : List (ge_R × Int)} {k : Int} {x : ge_R × Int} (H : jm_tc σ0 L σ k) (hp : ge_pos L) (hn : L.Pairwise (fun x y => ¬ ge_e x.1 y.1)) (k0 : 0 ≤ k) (hx : L[k.toNat]? = some x) : jm_tc σ0 L (jm_tcu σ (ge_rank L x.1 : Int) x) (k + 1) := by
  obtain ⟨a1, a2, a3⟩ := H
  refine ⟨jm_fr3_up (jm_fr3_up (jm_fr3_up (jm_fr3_up (jm_fr3_up a1 (by omega)) (by omega)) (by omega)) (by omega)) (by omega), ?_, fun i y hy hi => ?_⟩
  · unfold jm_tcu
    rw [jw_up_ne _ (by omega), jw_up_ne _ (by omega), jw_up_ne _ (by omega), jw_up_ne _ (by omega), jw_up_ne _ (by omega)]
    exact a2
  · rw [(jm_tcu_ct _ _ _ _).1, (jm_tcu_ct _ _ _ _).2]
    by_cases hr : (ge_rank L y.1 : Int) = (ge_rank L x.1 : Int)
    · rw [if_pos hr, if_pos hr]
      have e1 := ge_rank_srt hp hn (List.mem_of_getElem? hx)
      have e2 := ge_rank_srt hp hn (List.mem_of_getElem? hy)
      have e3 : ge_rank L y.1 = ge_rank L x.1 := by omega
      rw [e3, e1] at e2
      cases e2
      exact ⟨rfl, rfl⟩
    · rw [if_neg hr, if_neg hr]
      refine a3 i y hy ?_
      apply Classical.byContradiction
      intro w
      have : i = k.toNat := by omega
      subst this
      rw [hx] at hy
      cases hy
      exact hr rfl
theorem jm_tc_end {σ0 σ : jw_H} {L : List (ge_R × Int)} (H : jm_tc σ0 L σ (L.length : Int)) (hp : ge_pos L) (hn : L.Pairwise (fun x y => ¬ ge_e x.1 y.1)) : jm_cor σ (ge_srt L) := by
  obtain ⟨a1, a2, a3⟩ := H
  refine ⟨by rw [(ge_srt_perm L).length_eq]; exact a2, fun i x hx => ?_⟩
  have hp2 : ge_pos (ge_srt L) := fun z hz => hp z ((ge_srt_perm L).mem_iff.mp hz)
  have hr := ge_rank_at hp2 (ge_srt_sorted hp hn) hx
  rw [ge_rank_perm (ge_srt_perm L)] at hr
  obtain ⟨j, hj⟩ := List.getElem?_of_mem ((ge_srt_perm L).mem_iff.mp (List.mem_of_getElem? hx))
  have := a3 j x hj (by have := (List.getElem?_eq_some_iff.mp hj).1; omega)
  rw [hr] at this
  exact this
theorem jm_rank_s {L : List (ge_R × Int)} {q : Int} {y : ge_R × Int} (q0 : 0 ≤ q) (hy : L[q.toNat]? = some y) (x : ge_R) : ge_rank (L.take (q + 1).toNat) x = ge_rank (L.take q.toNat) x + if ge_lt y.1 x = true then 1 else 0 := by
  unfold ge_rank
  rw [jm_take q0 hy, List.countP_append, List.countP_singleton]
theorem jm_tci {n : Nat} {σ0 : jw_H} {L : List (ge_R × Int)} {X : Int} {D : Nat} {Q : Option jw_V → jw_H → Prop} (hD : 2 ≤ D) (hL : jm_is σ0 L) (hl : L.length ≤ 32) (hb : ∀ x ∈ L, jm_in4 X x.1) (hX : X * X ≤ 9200000000000000000) {σ : jw_H} {k : Int} {x : ge_R × Int} (hF : jm_fr3 σ0 σ) (k0 : 0 ≤ k) (hx : L[k.toNat]? = some x) (kk : ∀ j, jw_W (js_S n) D md_245 29 [some (.inr (.inr 103)), some (.inl k), some (.inl ((ge_rank L x.1 : Int))), some (.inl j)] [] σ Q) : ∀ (m : Nat) {j t : Int}, 0 ≤ j → j + m = (L.length : Int) → t = (ge_rank (L.take j.toNat) x.1 : Int) → jw_W (js_S n) D md_245 14 [some (.inr (.inr 103)), some (.inl k), some (.inl t), some (.inl j)] [] σ Q
  | m, j, t, j0, hj, ht => by
    have ih : ∀ {t' : Int}, j < (L.length : Int) → t' = (ge_rank (L.take (j + 1).toNat) x.1 : Int) → jw_W (js_S n) D md_245 14 [some (.inr (.inr 103)), some (.inl k), some (.inl t'), some (.inl (j + 1))] [] σ Q := by
      intro t' h1 h2
      match m, hj with
      | 0, hj => omega
      | m + 1, hj => exact jm_tci hD hL hl hb hX hF k0 hx kk m (by omega) (by omega) h2
    have lx := (List.getElem?_eq_some_iff.mp hx).1
    have hxm : x ∈ L := List.mem_of_getElem? hx
    have hp : ge_pos L := fun x hx => (hb x hx).2.2.2.1
    have hx' : ∀ j : Int, 0 ≤ j → j < (L.length : Int) → ∃ y, L[j.toNat]? = some y ∧ y ∈ L := fun j j0 h => by
      have h3 : j.toNat < L.length := by omega
      exact ⟨L[j.toNat], List.getElem?_eq_getElem h3, List.getElem_mem h3⟩
    have hm : σ 103 46 = (L.length : Int) := (hF.2 46 (by omega)).trans hL.1
    have hpt : ∀ (i : Nat) (x : ge_R × Int), L[i]? = some x → jm_pt σ (i : Int) = x.1 ∧ σ 130 (i : Int) = x.2 := fun i x hx => by
      obtain ⟨e1, e2⟩ := hL.2 i x hx
      rw [← e1, ← e2]
      simp only [jm_pt, hF.1 125 (by omega) (by omega), hF.1 126 (by omega) (by omega), hF.1 127 (by omega) (by omega), hF.1 128 (by omega) (by omega), hF.1 130 (by omega) (by omega)]
      exact ⟨trivial, trivial⟩
    obtain ⟨hpx, -⟩ := hpt _ x hx
    rw [Int.toNat_of_nonneg k0] at hpx
    refine jw_W_n 2 (i' := 16) (ls' := [some (.inr (.inr 103)), some (.inl k), some (.inl t), some (.inl j)]) (st' := [.inr (.inr 103), .inl j]) rfl ?_
    refine jw_W_gf rfl rfl rfl ?_
    show jw_W (js_S n) _ md_245 17 [some (.inr (.inr 103)), some (.inl k), some (.inl t), some (.inl j)] [.inl (σ 103 46), .inl j] σ _
    rw [hm]
    refine jw_W_ic rfl (by unfold jw_rg; omega) (by unfold jw_rg; omega) (fun hc1 => ?_) (fun hc1 => ?_)
    · have hc1 : j ≥ ((L.length : Int)) := hc1
      have hjl : j.toNat = L.length := by omega
      subst ht
      rw [hjl, List.take_length]
      exact kk j
    · have hc1 : ¬ (j ≥ ((L.length : Int))) := hc1
      obtain ⟨y, hy, hym⟩ := hx' j (by omega) (by omega)
      obtain ⟨hpy, -⟩ := hpt _ y hy
      rw [Int.toNat_of_nonneg j0] at hpy
      refine jw_W_n 3 (i' := 21) (ls' := [some (.inr (.inr 103)), some (.inl k), some (.inl t), some (.inl j)]) (st' := [.inl k, .inl j, .inr (.inr 103)]) rfl ?_
      refine jw_W_call (as := [.inr (.inr 103), .inl j, .inl k]) (rest := []) rfl rfl rfl rfl (Nat.le_of_ble_eq_true rfl) (.inr rfl) (jm_byPlace (X := X) j0 (by omega) k0 (by omega) (by rw [hpy]; exact (hb y hym)) (by rw [hpx]; exact hb x hxm) hX) (by omega) ?_ rfl
      rintro r1 σ1 (⟨rfl, hs, hlt⟩ | ⟨rfl, hs, hlt⟩ | ⟨rfl, hs, hlt⟩)
      · rw [hs]
        rw [hpy, hpx] at hlt
        show jw_W (js_S n) _ md_245 22 [some (.inr (.inr 103)), some (.inl k), some (.inl t), some (.inl j)] [.inl ((-1))] σ _
        refine jw_W_if rfl (by unfold jw_rg; omega) (fun hc2 => ?_) (fun hc2 => ?_)
        · exact absurd hc2 (show ¬ ((((-1 : Int))) ≥ 0) by omega)
        · clear hc2
          refine jw_W_n 6 (i' := 14) (ls' := [some (.inr (.inr 103)), some (.inl k), some (.inl (t + 1)), some (.inl (j + 1))]) (st' := []) rfl ?_
          first
            | exact ih (by omega) (by rw [jm_rank_s j0 hy, if_pos hlt, ht]; rfl)
            | exact ih (by omega) (by rw [jm_rank_s j0 hy, if_neg (by rw [ge_lt_asy (hp x hxm) (hp y hym) hlt]; decide), ht]; rfl)
            | exact ih (by omega) (by rw [jm_rank_s j0 hy, if_neg (fun w => ge_lt_ne w hlt), ht]; rfl)
      · rw [hs]
        rw [hpy, hpx] at hlt
        show jw_W (js_S n) _ md_245 22 [some (.inr (.inr 103)), some (.inl k), some (.inl t), some (.inl j)] [.inl 1] σ _
        refine jw_W_if rfl (by unfold jw_rg; omega) (fun hc3 => ?_) (fun hc3 => ?_)
        · clear hc3
          refine jw_W_n 2 (i' := 14) (ls' := [some (.inr (.inr 103)), some (.inl k), some (.inl t), some (.inl (j + 1))]) (st' := []) rfl ?_
          first
            | exact ih (by omega) (by rw [jm_rank_s j0 hy, if_pos hlt, ht]; rfl)
            | exact ih (by omega) (by rw [jm_rank_s j0 hy, if_neg (by rw [ge_lt_asy (hp x hxm) (hp y hym) hlt]; decide), ht]; rfl)
            | exact ih (by omega) (by rw [jm_rank_s j0 hy, if_neg (fun w => ge_lt_ne w hlt), ht]; rfl)
        · exact absurd hc3 (show ¬ ¬ ((1 : Int) ≥ 0) by omega)
      · rw [hs]
        rw [hpy, hpx] at hlt
        show jw_W (js_S n) _ md_245 22 [some (.inr (.inr 103)), some (.inl k), some (.inl t), some (.inl j)] [.inl 0] σ _
        refine jw_W_if rfl (by unfold jw_rg; omega) (fun hc4 => ?_) (fun hc4 => ?_)
        · clear hc4
          refine jw_W_n 2 (i' := 14) (ls' := [some (.inr (.inr 103)), some (.inl k), some (.inl t), some (.inl (j + 1))]) (st' := []) rfl ?_
          first
            | exact ih (by omega) (by rw [jm_rank_s j0 hy, if_pos hlt, ht]; rfl)
            | exact ih (by omega) (by rw [jm_rank_s j0 hy, if_neg (by rw [ge_lt_asy (hp x hxm) (hp y hym) hlt]; decide), ht]; rfl)
            | exact ih (by omega) (by rw [jm_rank_s j0 hy, if_neg (fun w => ge_lt_ne w hlt), ht]; rfl)
        · exact absurd hc4 (show ¬ ¬ ((0 : Int) ≥ 0) by omega)
theorem jm_tco {n : Nat} {σ0 : jw_H} {L : List (ge_R × Int)} {X : Int} {D : Nat} {Q : Option jw_V → jw_H → Prop} (hD : 2 ≤ D) (hL : jm_is σ0 L) (hl : L.length ≤ 32) (hb : ∀ x ∈ L, jm_in4 X x.1) (hX : X * X ≤ 9200000000000000000) (hn : L.Pairwise (fun x y => ¬ ge_e x.1 y.1)) (hQ : ∀ σ', jm_fr3 σ0 σ' → jm_cor σ' (ge_srt L) → Q none σ') : ∀ (f : Nat) {σ : jw_H} {k : Int} {l2 l3 : Option jw_V}, 0 ≤ k → k + f = (L.length : Int) → jm_tc σ0 L σ k → jw_W (js_S n) D md_245 6 [some (.inr (.inr 103)), some (.inl k), l2, l3] [] σ Q
  | f, σ, k, l2, l3, k0, hk, hI => by
    have ih : ∀ {σ' : jw_H} {a b : Option jw_V}, k < (L.length : Int) → jm_tc σ0 L σ' (k + 1) → jw_W (js_S n) D md_245 6 [some (.inr (.inr 103)), some (.inl (k + 1)), a, b] [] σ' Q := by
      intro σ' a b h1 h2
      match f, hk with
      | 0, hk => omega
      | f + 1, hk => exact jm_tco hD hL hl hb hX hn hQ f (by omega) (by omega) h2
    have hp : ge_pos L := fun x hx => (hb x hx).2.2.2.1
    have hx' : ∀ j : Int, 0 ≤ j → j < (L.length : Int) → ∃ y, L[j.toNat]? = some y ∧ y ∈ L := fun j j0 h => by
      have h3 : j.toNat < L.length := by omega
      exact ⟨L[j.toNat], List.getElem?_eq_getElem h3, List.getElem_mem h3⟩
    have hm : σ 103 46 = (L.length : Int) := (hI.1.2 46 (by omega)).trans hL.1
    have hpt : ∀ (i : Nat) (x : ge_R × Int), L[i]? = some x → jm_pt σ (i : Int) = x.1 ∧ σ 130 (i : Int) = x.2 := fun i x hx => by
      obtain ⟨e1, e2⟩ := hL.2 i x hx
      rw [← e1, ← e2]
      simp only [jm_pt, hI.1.1 125 (by omega) (by omega), hI.1.1 126 (by omega) (by omega), hI.1.1 127 (by omega) (by omega), hI.1.1 128 (by omega) (by omega), hI.1.1 130 (by omega) (by omega)]
      exact ⟨trivial, trivial⟩
    refine jw_W_n 2 (i' := 8) (ls' := [some (.inr (.inr 103)), some (.inl k), l2, l3]) (st' := [.inr (.inr 103), .inl k]) rfl ?_
    refine jw_W_gf rfl rfl rfl ?_
    show jw_W (js_S n) _ md_245 9 [some (.inr (.inr 103)), some (.inl k), l2, l3] [.inl (σ 103 46), .inl k] σ _
    rw [hm]
    refine jw_W_ic rfl (by unfold jw_rg; omega) (by unfold jw_rg; omega) (fun hc1 => ?_) (fun hc1 => ?_)
    · have hc1 : k ≥ ((L.length : Int)) := hc1
      refine jw_W_re rfl ?_
      have hkl : k = (L.length : Int) := by omega
      subst hkl
      exact hQ σ hI.1 (jm_tc_end hI hp hn)
    · have hc1 : ¬ (k ≥ ((L.length : Int))) := hc1
      refine jw_W_n 4 (i' := 14) (ls' := [some (.inr (.inr 103)), some (.inl k), some (.inl 0), some (.inl 0)]) (st' := []) rfl ?_
      obtain ⟨x, hx, hxm⟩ := hx' k (by omega) (by omega)
      obtain ⟨hpx, htx⟩ := hpt _ x hx
      rw [Int.toNat_of_nonneg k0] at hpx htx
      have hrk := (List.getElem?_eq_some_iff.mp (ge_rank_srt hp hn hxm)).1
      rw [(ge_srt_perm L).length_eq] at hrk
      refine jm_tci hD hL hl hb hX hI.1 k0 hx (fun j => ?_) L.length (j := 0) (by omega) (by omega) rfl
      have p1 : σ 125 k = x.1.1 := congrArg (fun z : ge_R => z.1) hpx
      have p2 : σ 126 k = x.1.2.1 := congrArg (fun z : ge_R => z.2.1) hpx
      have p3 : σ 127 k = x.1.2.2.1 := congrArg (fun z : ge_R => z.2.2.1) hpx
      have p4 : σ 128 k = x.1.2.2.2 := congrArg (fun z : ge_R => z.2.2.2) hpx
      refine jw_W_n 1 (i' := 30) (ls' := [some (.inr (.inr 103)), some (.inl k), some (.inl ((ge_rank L x.1 : Int))), some (.inl j)]) (st' := [.inr (.inr 103)]) rfl ?_
      refine jw_W_gf rfl rfl rfl ?_
      show jw_W (js_S n) _ md_245 31 [some (.inr (.inr 103)), some (.inl k), some (.inl ((ge_rank L x.1 : Int))), some (.inl j)] [.inr (.inr 132)] σ _
      refine jw_W_n 2 (i' := 33) (ls' := [some (.inr (.inr 103)), some (.inl k), some (.inl ((ge_rank L x.1 : Int))), some (.inl j)]) (st' := [.inr (.inr 103), .inl ((ge_rank L x.1 : Int)), .inr (.inr 132)]) rfl ?_
      refine jw_W_gf rfl rfl rfl ?_
      show jw_W (js_S n) _ md_245 34 [some (.inr (.inr 103)), some (.inl k), some (.inl ((ge_rank L x.1 : Int))), some (.inl j)] [.inr (.inr 125), .inl ((ge_rank L x.1 : Int)), .inr (.inr 132)] σ _
      refine jw_W_n 1 (i' := 35) (ls' := [some (.inr (.inr 103)), some (.inl k), some (.inl ((ge_rank L x.1 : Int))), some (.inl j)]) (st' := [.inl k, .inr (.inr 125), .inl ((ge_rank L x.1 : Int)), .inr (.inr 132)]) rfl ?_
      refine jw_W_la rfl rfl (by omega) (by omega) (by omega) ?_
      show jw_W (js_S n) _ md_245 36 [some (.inr (.inr 103)), some (.inl k), some (.inl ((ge_rank L x.1 : Int))), some (.inl j)] [.inr (.inl (σ 125 k)), .inl ((ge_rank L x.1 : Int)), .inr (.inr 132)] σ _
      rw [p1]
      refine jw_W_ls rfl (by omega) rfl (by omega) (by omega) (by omega) ?_
      refine jw_W_n 1 (i' := 38) (ls' := [some (.inr (.inr 103)), some (.inl k), some (.inl ((ge_rank L x.1 : Int))), some (.inl j)]) (st' := [.inr (.inr 103)]) rfl ?_
      refine jw_W_gf rfl rfl rfl ?_
      show jw_W (js_S n) _ md_245 39 [some (.inr (.inr 103)), some (.inl k), some (.inl ((ge_rank L x.1 : Int))), some (.inl j)] [.inr (.inr 133)] ((jw_up σ 132 ((ge_rank L x.1 : Int)) x.1.1)) _
      refine jw_W_n 2 (i' := 41) (ls' := [some (.inr (.inr 103)), some (.inl k), some (.inl ((ge_rank L x.1 : Int))), some (.inl j)]) (st' := [.inr (.inr 103), .inl ((ge_rank L x.1 : Int)), .inr (.inr 133)]) rfl ?_
      refine jw_W_gf rfl rfl rfl ?_
      show jw_W (js_S n) _ md_245 42 [some (.inr (.inr 103)), some (.inl k), some (.inl ((ge_rank L x.1 : Int))), some (.inl j)] [.inr (.inr 126), .inl ((ge_rank L x.1 : Int)), .inr (.inr 133)] ((jw_up σ 132 ((ge_rank L x.1 : Int)) x.1.1)) _
      refine jw_W_n 1 (i' := 43) (ls' := [some (.inr (.inr 103)), some (.inl k), some (.inl ((ge_rank L x.1 : Int))), some (.inl j)]) (st' := [.inl k, .inr (.inr 126), .inl ((ge_rank L x.1 : Int)), .inr (.inr 133)]) rfl ?_
      refine jw_W_la rfl rfl (by omega) (by omega) (by omega) ?_
      show jw_W (js_S n) _ md_245 44 [some (.inr (.inr 103)), some (.inl k), some (.inl ((ge_rank L x.1 : Int))), some (.inl j)] [.inr (.inl (σ 126 k)), .inl ((ge_rank L x.1 : Int)), .inr (.inr 133)] ((jw_up σ 132 ((ge_rank L x.1 : Int)) x.1.1)) _
      rw [p2]
      refine jw_W_ls rfl (by omega) rfl (by omega) (by omega) (by omega) ?_
      refine jw_W_n 1 (i' := 46) (ls' := [some (.inr (.inr 103)), some (.inl k), some (.inl ((ge_rank L x.1 : Int))), some (.inl j)]) (st' := [.inr (.inr 103)]) rfl ?_
      refine jw_W_gf rfl rfl rfl ?_
      show jw_W (js_S n) _ md_245 47 [some (.inr (.inr 103)), some (.inl k), some (.inl ((ge_rank L x.1 : Int))), some (.inl j)] [.inr (.inr 134)] ((jw_up (jw_up σ 132 ((ge_rank L x.1 : Int)) x.1.1) 133 ((ge_rank L x.1 : Int)) x.1.2.1)) _
      refine jw_W_n 2 (i' := 49) (ls' := [some (.inr (.inr 103)), some (.inl k), some (.inl ((ge_rank L x.1 : Int))), some (.inl j)]) (st' := [.inr (.inr 103), .inl ((ge_rank L x.1 : Int)), .inr (.inr 134)]) rfl ?_
      refine jw_W_gf rfl rfl rfl ?_
      show jw_W (js_S n) _ md_245 50 [some (.inr (.inr 103)), some (.inl k), some (.inl ((ge_rank L x.1 : Int))), some (.inl j)] [.inr (.inr 127), .inl ((ge_rank L x.1 : Int)), .inr (.inr 134)] ((jw_up (jw_up σ 132 ((ge_rank L x.1 : Int)) x.1.1) 133 ((ge_rank L x.1 : Int)) x.1.2.1)) _
      refine jw_W_n 1 (i' := 51) (ls' := [some (.inr (.inr 103)), some (.inl k), some (.inl ((ge_rank L x.1 : Int))), some (.inl j)]) (st' := [.inl k, .inr (.inr 127), .inl ((ge_rank L x.1 : Int)), .inr (.inr 134)]) rfl ?_
      refine jw_W_la rfl rfl (by omega) (by omega) (by omega) ?_
      show jw_W (js_S n) _ md_245 52 [some (.inr (.inr 103)), some (.inl k), some (.inl ((ge_rank L x.1 : Int))), some (.inl j)] [.inr (.inl (σ 127 k)), .inl ((ge_rank L x.1 : Int)), .inr (.inr 134)] ((jw_up (jw_up σ 132 ((ge_rank L x.1 : Int)) x.1.1) 133 ((ge_rank L x.1 : Int)) x.1.2.1)) _
      rw [p3]
      refine jw_W_ls rfl (by omega) rfl (by omega) (by omega) (by omega) ?_
      refine jw_W_n 1 (i' := 54) (ls' := [some (.inr (.inr 103)), some (.inl k), some (.inl ((ge_rank L x.1 : Int))), some (.inl j)]) (st' := [.inr (.inr 103)]) rfl ?_
      refine jw_W_gf rfl rfl rfl ?_
      show jw_W (js_S n) _ md_245 55 [some (.inr (.inr 103)), some (.inl k), some (.inl ((ge_rank L x.1 : Int))), some (.inl j)] [.inr (.inr 135)] ((jw_up (jw_up (jw_up σ 132 ((ge_rank L x.1 : Int)) x.1.1) 133 ((ge_rank L x.1 : Int)) x.1.2.1) 134 ((ge_rank L x.1 : Int)) x.1.2.2.1)) _
      refine jw_W_n 2 (i' := 57) (ls' := [some (.inr (.inr 103)), some (.inl k), some (.inl ((ge_rank L x.1 : Int))), some (.inl j)]) (st' := [.inr (.inr 103), .inl ((ge_rank L x.1 : Int)), .inr (.inr 135)]) rfl ?_
      refine jw_W_gf rfl rfl rfl ?_
      show jw_W (js_S n) _ md_245 58 [some (.inr (.inr 103)), some (.inl k), some (.inl ((ge_rank L x.1 : Int))), some (.inl j)] [.inr (.inr 128), .inl ((ge_rank L x.1 : Int)), .inr (.inr 135)] ((jw_up (jw_up (jw_up σ 132 ((ge_rank L x.1 : Int)) x.1.1) 133 ((ge_rank L x.1 : Int)) x.1.2.1) 134 ((ge_rank L x.1 : Int)) x.1.2.2.1)) _
      refine jw_W_n 1 (i' := 59) (ls' := [some (.inr (.inr 103)), some (.inl k), some (.inl ((ge_rank L x.1 : Int))), some (.inl j)]) (st' := [.inl k, .inr (.inr 128), .inl ((ge_rank L x.1 : Int)), .inr (.inr 135)]) rfl ?_
      refine jw_W_la rfl rfl (by omega) (by omega) (by omega) ?_
      show jw_W (js_S n) _ md_245 60 [some (.inr (.inr 103)), some (.inl k), some (.inl ((ge_rank L x.1 : Int))), some (.inl j)] [.inr (.inl (σ 128 k)), .inl ((ge_rank L x.1 : Int)), .inr (.inr 135)] ((jw_up (jw_up (jw_up σ 132 ((ge_rank L x.1 : Int)) x.1.1) 133 ((ge_rank L x.1 : Int)) x.1.2.1) 134 ((ge_rank L x.1 : Int)) x.1.2.2.1)) _
      rw [p4]
      refine jw_W_ls rfl (by omega) rfl (by omega) (by omega) (by omega) ?_
      refine jw_W_n 1 (i' := 62) (ls' := [some (.inr (.inr 103)), some (.inl k), some (.inl ((ge_rank L x.1 : Int))), some (.inl j)]) (st' := [.inr (.inr 103)]) rfl ?_
      refine jw_W_gf rfl rfl rfl ?_
      show jw_W (js_S n) _ md_245 63 [some (.inr (.inr 103)), some (.inl k), some (.inl ((ge_rank L x.1 : Int))), some (.inl j)] [.inr (.inr 136)] ((jw_up (jw_up (jw_up (jw_up σ 132 ((ge_rank L x.1 : Int)) x.1.1) 133 ((ge_rank L x.1 : Int)) x.1.2.1) 134 ((ge_rank L x.1 : Int)) x.1.2.2.1) 135 ((ge_rank L x.1 : Int)) x.1.2.2.2)) _
      refine jw_W_n 2 (i' := 65) (ls' := [some (.inr (.inr 103)), some (.inl k), some (.inl ((ge_rank L x.1 : Int))), some (.inl j)]) (st' := [.inr (.inr 103), .inl ((ge_rank L x.1 : Int)), .inr (.inr 136)]) rfl ?_
      refine jw_W_gf rfl rfl rfl ?_
      show jw_W (js_S n) _ md_245 66 [some (.inr (.inr 103)), some (.inl k), some (.inl ((ge_rank L x.1 : Int))), some (.inl j)] [.inr (.inr 130), .inl ((ge_rank L x.1 : Int)), .inr (.inr 136)] ((jw_up (jw_up (jw_up (jw_up σ 132 ((ge_rank L x.1 : Int)) x.1.1) 133 ((ge_rank L x.1 : Int)) x.1.2.1) 134 ((ge_rank L x.1 : Int)) x.1.2.2.1) 135 ((ge_rank L x.1 : Int)) x.1.2.2.2)) _
      refine jw_W_n 1 (i' := 67) (ls' := [some (.inr (.inr 103)), some (.inl k), some (.inl ((ge_rank L x.1 : Int))), some (.inl j)]) (st' := [.inl k, .inr (.inr 130), .inl ((ge_rank L x.1 : Int)), .inr (.inr 136)]) rfl ?_
      refine jw_W_ia rfl rfl (by omega) (by omega) (by omega) ?_
      show jw_W (js_S n) _ md_245 68 [some (.inr (.inr 103)), some (.inl k), some (.inl ((ge_rank L x.1 : Int))), some (.inl j)] [.inl (σ 130 k), .inl ((ge_rank L x.1 : Int)), .inr (.inr 136)] ((jw_up (jw_up (jw_up (jw_up σ 132 ((ge_rank L x.1 : Int)) x.1.1) 133 ((ge_rank L x.1 : Int)) x.1.2.1) 134 ((ge_rank L x.1 : Int)) x.1.2.2.1) 135 ((ge_rank L x.1 : Int)) x.1.2.2.2)) _
      rw [htx]
      refine jw_W_is rfl (by omega) rfl (by omega) (by omega) (by omega) ?_
      refine jw_W_n 2 (i' := 6) (ls' := [some (.inr (.inr 103)), some (.inl (k + 1)), some (.inl ((ge_rank L x.1 : Int))), some (.inl j)]) (st' := []) rfl ?_
      exact ih (by omega) (jm_tc_s hI hp hn k0 hx)
theorem jm_takesCorners {n : Nat} {σ : jw_H} {L : List (ge_R × Int)} {X : Int} (hL : jm_is σ L) (hl : L.length ≤ 32) (hb : ∀ x ∈ L, jm_in4 X x.1) (hX : X * X ≤ 9200000000000000000) (hn : L.Pairwise (fun x y => ¬ ge_e x.1 y.1)) : jw_T (js_S n) 3 245 [.inr (.inr 103)] σ (fun r σ' => r = none ∧ jm_fr3 σ σ' ∧ jm_cor σ' (ge_srt L)) := by
  refine jw_T_of (D := 2) (M := mm_245) rfl (Nat.le_of_ble_eq_true rfl) (ls0 := [some (.inr (.inr 103)), none, none, none]) rfl ?_ (by rintro _ _ ⟨rfl, -⟩; rfl)
  refine jw_W_n 2 (i' := 2) (ls' := [some (.inr (.inr 103)), none, none, none]) (st' := [.inr (.inr 103), .inr (.inr 103)]) rfl ?_
  refine jw_W_gf rfl rfl rfl ?_
  show jw_W (js_S n) _ md_245 3 [some (.inr (.inr 103)), none, none, none] [.inl (σ 103 46), .inr (.inr 103)] σ _
  rw [hL.1]
  refine jw_W_pf (a := (L.length : Int)) rfl (by omega) rfl rfl rfl rfl rfl ?_
  refine jw_W_n 2 (i' := 6) (ls' := [some (.inr (.inr 103)), some (.inl 0), none, none]) (st' := []) rfl ?_
  exact jm_tco (D := 2) (by omega) hL hl hb hX hn (fun σ' a b => ⟨rfl, a, b⟩) L.length (k := 0) (by omega) (by omega) ⟨jm_fr3_up (jm_fr3_rf σ) (by omega), jw_up_eq _ _ _ _, fun i x hx hi => by omega⟩

/-! ===== the reference's answer of gain ===== -/
/-- the answer of gain -/
def jm_gna (σ : jw_H) (x y z j v : Int) : Prop := (v = -1 ∧ ¬ (jm_ip σ x y z ∧ 0 ≤ j ∧ j ≤ 1)) ∨ ((jm_ip σ x y z ∧ 0 ≤ j ∧ j ≤ 1) ∧ ((v = -2 ∧ ¬ ge_F (jm_RR (σ 103 3) (jm_bA σ)) (x, y, z, 1)) ∨ (ge_F (jm_RR (σ 103 3) (jm_bA σ)) (x, y, z, 1) ∧ ∃ u, jm_bpt σ 1 (x, y, z, 1) u ∧ v = jm_of (jm_Aw σ u - jm_Aw σ (x, y, z, 1) * u.2.2.2) u.2.2.2 j)))
theorem jm_gain_loop {n : Nat} {σ3 : jw_H} {D : Nat} {x y z j b : Int} {Q : Option jw_V → jw_H → Prop} (hD : 1 ≤ D) (hP1 : jm_Pb σ3) (hx : 0 ≤ x ∧ x ≤ 9) (hy : 0 ≤ y ∧ y ≤ 9) (hz : 0 ≤ z ∧ z ≤ 9) (hQ : jw_W (js_S n) D md_305 55 [some (.inr (.inr 103)), some (.inl x), some (.inl y), some (.inl z), some (.inl j), some (.inl b), some (.inr (.inl (jm_aw σ3 (x, y, z, 1) (σ3 103 4).toNat))), none, some (.inl (σ3 103 4))] [] σ3 Q) : ∀ (f : Nat) {k s : Int}, 0 ≤ k → k + f = σ3 103 4 → s = jm_aw σ3 (x, y, z, 1) k.toNat → jw_W (js_S n) D md_305 37 [some (.inr (.inr 103)), some (.inl x), some (.inl y), some (.inl z), some (.inl j), some (.inl b), some (.inr (.inl s)), none, some (.inl k)] [] σ3 Q
  | f, k, s, k0, hk, hs0 => by
    have ih : ∀ {s' : Int}, k < σ3 103 4 → s' = jm_aw σ3 (x, y, z, 1) (k + 1).toNat → jw_W (js_S n) D md_305 37 [some (.inr (.inr 103)), some (.inl x), some (.inl y), some (.inl z), some (.inl j), some (.inl b), some (.inr (.inl s')), none, some (.inl (k + 1))] [] σ3 Q := by
      intro s' h1 h2
      match f, hk with
      | 0, hk => omega
      | f + 1, hk => exact jm_gain_loop hD hP1 hx hy hz hQ f (by omega) (by omega) h2
    have pw := hP1.2.1
    refine jw_W_n 2 (i' := 39) (ls' := [some (.inr (.inr 103)), some (.inl x), some (.inl y), some (.inl z), some (.inl j), some (.inl b), some (.inr (.inl s)), none, some (.inl k)]) (st' := [.inr (.inr 103), .inl k]) rfl ?_
    refine jw_W_gf rfl rfl rfl ?_
    show jw_W (js_S n) _ md_305 40 [some (.inr (.inr 103)), some (.inl x), some (.inl y), some (.inl z), some (.inl j), some (.inl b), some (.inr (.inl s)), none, some (.inl k)] [.inl (σ3 103 4), .inl k] σ3 _
    refine jw_W_ic rfl (by unfold jw_rg; omega) (by unfold jw_rg; omega) (fun hc1 => ?_) (fun hc1 => ?_)
    · have hc1 : k ≥ (σ3 103 4) := hc1
      have hkl : k = σ3 103 4 := by omega
      subst hkl
      rw [hs0]
      exact hQ
    · have hc1 : ¬ (k ≥ (σ3 103 4)) := hc1
      refine jw_W_n 4 (i' := 45) (ls' := [some (.inr (.inr 103)), some (.inl x), some (.inl y), some (.inl z), some (.inl j), some (.inl b), some (.inr (.inl s)), none, some (.inl k)]) (st' := [.inl x, .inl k, .inr (.inr 103), .inr (.inl s)]) rfl ?_
      refine jw_W_i2l rfl (by unfold jw_rg; omega) ?_
      refine jw_W_n 1 (i' := 47) (ls' := [some (.inr (.inr 103)), some (.inl x), some (.inl y), some (.inl z), some (.inl j), some (.inl b), some (.inr (.inl s)), none, some (.inl k)]) (st' := [.inl y, .inr (.inl x), .inl k, .inr (.inr 103), .inr (.inl s)]) rfl ?_
      refine jw_W_i2l rfl (by unfold jw_rg; omega) ?_
      refine jw_W_n 1 (i' := 49) (ls' := [some (.inr (.inr 103)), some (.inl x), some (.inl y), some (.inl z), some (.inl j), some (.inl b), some (.inr (.inl s)), none, some (.inl k)]) (st' := [.inl z, .inr (.inl y), .inr (.inl x), .inl k, .inr (.inr 103), .inr (.inl s)]) rfl ?_
      refine jw_W_i2l rfl (by unfold jw_rg; omega) ?_
      refine jw_W_call (as := [.inr (.inr 103), .inl k, .inr (.inl x), .inr (.inl y), .inr (.inl z)]) (rest := [.inr (.inl s)]) rfl rfl rfl rfl (Nat.le_of_ble_eq_true rfl) (.inr rfl) (jm_wished hP1 k0 (by omega)) (by omega) ?_ rfl
      rintro r1 σ1 ⟨rfl, hs⟩
      rw [hs]
      show jw_W (js_S n) _ md_305 51 [some (.inr (.inr 103)), some (.inl x), some (.inl y), some (.inl z), some (.inl j), some (.inl b), some (.inr (.inl s)), none, some (.inl k)] [.inr (.inl (ge_f (jm_W σ3 k) (x, y, z, 1))), .inr (.inl s)] σ3 _
      refine jw_W_n 4 (i' := 37) (ls' := [some (.inr (.inr 103)), some (.inl x), some (.inl y), some (.inl z), some (.inl j), some (.inl b), some (.inr (.inl (s + (ge_f (jm_W σ3 k) (x, y, z, 1))))), none, some (.inl (k + 1))]) (st' := []) rfl ?_
      exact ih (by omega) (by rw [hs0, show (k + 1).toNat = k.toNat + 1 by omega]; show _ = jm_aw σ3 (x, y, z, 1) k.toNat + ge_f (jm_W σ3 ((k.toNat : Nat) : Int)) (x, y, z, 1); rw [Int.toNat_of_nonneg k0])
theorem jm_gain {n : Nat} {σ : jw_H} {x y z j : Int} {C : List (ge_R × Int)} (hP : jm_Pb σ) (hN : jm_Ns σ) (hK : jm_kn σ C) (hx : jw_rg x) (hy : jw_rg y) (hz : jw_rg z) (hj : jw_rg j) : jw_T (js_S n) 6 305 [.inr (.inr 103), .inl x, .inl y, .inl z, .inl j] σ (fun r σ' => ∃ v, r = some (.inr (.inl v)) ∧ (σ' = σ ∨ jm_fe σ σ') ∧ jm_gna σ x y z j v) := by
  refine jw_T_of (D := 5) (M := mm_305) rfl (Nat.le_of_ble_eq_true rfl) (ls0 := [some (.inr (.inr 103)), some (.inl x), some (.inl y), some (.inl z), some (.inl j), none, none, none, none]) rfl ?_ (by rintro _ _ ⟨_, rfl, -⟩; rfl)
  have hq := hP.1
  have rhx := hx
  unfold jw_rg at rhx
  have rhy := hy
  unfold jw_rg at rhy
  have rhz := hz
  unfold jw_rg at rhz
  have rhj := hj
  unfold jw_rg at rhj
  refine jw_W_n 4 (i' := 4) (ls' := [some (.inr (.inr 103)), some (.inl x), some (.inl y), some (.inl z), some (.inl j), none, none, none, none]) (st' := [.inl z, .inl y, .inl x, .inr (.inr 103)]) rfl ?_
  refine jw_W_call (as := [.inr (.inr 103), .inl x, .inl y, .inl z]) (rest := []) rfl rfl rfl rfl (Nat.le_of_ble_eq_true rfl) (.inr rfl) (jm_isPlan hP hx hy hz) (by omega) ?_ rfl
  rintro r1 σ1 (⟨rfl, hs, hip⟩ | ⟨rfl, hs, hip⟩)
  · rw [hs]
    have hip2 := hip
    unfold jm_ip at hip2
    show jw_W (js_S n) _ md_305 5 [some (.inr (.inr 103)), some (.inl x), some (.inl y), some (.inl z), some (.inl j), none, none, none, none] [.inl 1] σ _
    refine jw_W_if rfl (by unfold jw_rg; omega) (fun hc1 => ?_) (fun hc1 => ?_)
    · exact absurd hc1 (show ¬ ((1 : Int) = 0) by omega)
    · clear hc1
      refine jw_W_n 3 (i' := 9) (ls' := [some (.inr (.inr 103)), some (.inl x), some (.inl y), some (.inl z), some (.inl j), none, none, none, none]) (st' := [.inl 1, .inl 0, .inl j]) rfl ?_
      refine jw_W_call (as := [.inl j, .inl 0, .inl 1]) (rest := []) rfl rfl rfl rfl (Nat.le_of_ble_eq_true rfl) (.inl rfl) (jm_in (by unfold jw_rg; omega) (by unfold jw_rg; omega) (by unfold jw_rg; omega)) (by omega) ?_ rfl
      rintro r1 σ1 (⟨rfl, hs, q1⟩ | ⟨rfl, hs, q1⟩)
      · rw [hs]
        show jw_W (js_S n) _ md_305 10 [some (.inr (.inr 103)), some (.inl x), some (.inl y), some (.inl z), some (.inl j), none, none, none, none] [.inl 1] σ _
        refine jw_W_if rfl (by unfold jw_rg; omega) (fun hc2 => ?_) (fun hc2 => ?_)
        · clear hc2
          refine jw_W_n 4 (i' := 17) (ls' := [some (.inr (.inr 103)), some (.inl x), some (.inl y), some (.inl z), some (.inl j), none, none, none, none]) (st' := [.inl z, .inl y, .inl x, .inr (.inr 103)]) rfl ?_
          refine jw_W_call (as := [.inr (.inr 103), .inl x, .inl y, .inl z]) (rest := []) rfl rfl rfl rfl (Nat.le_of_ble_eq_true rfl) (.inr rfl) (jm_isAllowed hP hip) (by omega) ?_ rfl
          rintro r1 σ1 (⟨rfl, hs, hal⟩ | ⟨rfl, hs, hal⟩)
          · rw [hs]
            show jw_W (js_S n) _ md_305 18 [some (.inr (.inr 103)), some (.inl x), some (.inl y), some (.inl z), some (.inl j), none, none, none, none] [.inl 1] σ _
            refine jw_W_if rfl (by unfold jw_rg; omega) (fun hc3 => ?_) (fun hc3 => ?_)
            · clear hc3
              refine jw_W_n 2 (i' := 23) (ls' := [some (.inr (.inr 103)), some (.inl x), some (.inl y), some (.inl z), some (.inl j), none, none, none, none]) (st' := [.inl x, .inr (.inr 103)]) rfl ?_
              refine jw_W_i2l rfl (by unfold jw_rg; omega) ?_
              refine jw_W_n 1 (i' := 25) (ls' := [some (.inr (.inr 103)), some (.inl x), some (.inl y), some (.inl z), some (.inl j), none, none, none, none]) (st' := [.inl y, .inr (.inl x), .inr (.inr 103)]) rfl ?_
              refine jw_W_i2l rfl (by unfold jw_rg; omega) ?_
              refine jw_W_n 1 (i' := 27) (ls' := [some (.inr (.inr 103)), some (.inl x), some (.inl y), some (.inl z), some (.inl j), none, none, none, none]) (st' := [.inl z, .inr (.inl y), .inr (.inl x), .inr (.inr 103)]) rfl ?_
              refine jw_W_i2l rfl (by unfold jw_rg; omega) ?_
              refine jw_W_n 1 (i' := 29) (ls' := [some (.inr (.inr 103)), some (.inl x), some (.inl y), some (.inl z), some (.inl j), none, none, none, none]) (st' := [.inr (.inl 1), .inr (.inl z), .inr (.inl y), .inr (.inl x), .inr (.inr 103)]) rfl ?_
              refine jw_W_call (as := [.inr (.inr 103), .inr (.inl x), .inr (.inl y), .inr (.inl z), .inr (.inl 1)]) (rest := []) rfl rfl rfl rfl (Nat.le_of_ble_eq_true rfl) (.inr rfl) (jm_cutsBelow hP hN hK (by omega) (by omega) (by omega) (by omega) (by omega)) (by omega) ?_ rfl
              rintro r1 σ1 ⟨rfl, hI⟩
              rename jw_H => σ3
              obtain ⟨hpb, hm⟩ := jm_cb_pb hP (by omega) (by omega) hI
              have hP1 := jm_fr2_Pb hI.1 hP
              show jw_W (js_S n) _ md_305 30 [some (.inr (.inr 103)), some (.inl x), some (.inl y), some (.inl z), some (.inl j), none, none, none, none] [] σ3 _
              refine jw_W_n 1 (i' := 31) (ls' := [some (.inr (.inr 103)), some (.inl x), some (.inl y), some (.inl z), some (.inl j), none, none, none, none]) (st' := [.inr (.inr 103)]) rfl ?_
              refine jw_W_call (as := [.inr (.inr 103)]) (rest := []) rfl rfl rfl rfl (Nat.le_of_ble_eq_true rfl) (.inr rfl) (jm_mostWished hP1 hpb) (by omega) ?_ rfl
              rintro r1 σ1 ⟨b, rfl, hs, b0, bm, hb⟩
              rw [hs]
              have bl := (jm_eff_eq hP hI.1 (by omega) hal hm b0 bm hb).2
              have hbest := jm_cb_best hI b0 bl hb
              obtain ⟨⟨⟨o1, o2⟩, ⟨o3, o4⟩, ⟨o5, o6⟩, o7, o8⟩, o9⟩ := hpb.2 b b0 bl
              simp only [jm_pt] at o1 o2 o3 o4 o5 o6 o7 o8 o9
              have hmm := hpb.1
              show jw_W (js_S n) _ md_305 32 [some (.inr (.inr 103)), some (.inl x), some (.inl y), some (.inl z), some (.inl j), none, none, none, none] [.inl b] σ3 _
              refine jw_W_n 5 (i' := 37) (ls' := [some (.inr (.inr 103)), some (.inl x), some (.inl y), some (.inl z), some (.inl j), some (.inl b), some (.inr (.inl 0)), none, some (.inl 0)]) (st' := []) rfl ?_
              refine jm_gain_loop (D := 5) (by omega) hP1 (by omega) (by omega) (by omega) ?_ (σ3 103 4).toNat (k := 0) (by omega) (by have := hP1.2.1; omega) rfl
              have ehere : jm_aw σ3 (x, y, z, 1) (σ3 103 4).toNat = jm_Aw σ (x, y, z, 1) := jm_Aw_fr hI.1 _
              rw [ehere]
              have A1 := jm_Aw_bd hP1 (hpb.2 b b0 bl).1
              have A2 := jm_Aw_bd hP (v := (x, y, z, 1)) (by unfold jm_in4; simp only; omega)
              have A3 := jm_ab2 (S := 10331213040) (X := 162) A2.1 A2.2 (by omega) (Int.le_of_lt o7) o9
              refine jw_W_n 2 (i' := 57) (ls' := [some (.inr (.inr 103)), some (.inl x), some (.inl y), some (.inl z), some (.inl j), some (.inl b), some (.inr (.inl (jm_Aw σ (x, y, z, 1)))), none, some (.inl (σ3 103 4))]) (st' := [.inl b, .inr (.inr 103)]) rfl ?_
              refine jw_W_call (as := [.inr (.inr 103), .inl b]) (rest := []) rfl rfl rfl rfl (Nat.le_of_ble_eq_true rfl) (.inr rfl) (jm_allWished hP1 (by omega) (by omega)) (by omega) ?_ rfl
              rintro r1 σ1 ⟨rfl, hs⟩
              rw [hs]
              show jw_W (js_S n) _ md_305 58 [some (.inr (.inr 103)), some (.inl x), some (.inl y), some (.inl z), some (.inl j), some (.inl b), some (.inr (.inl (jm_Aw σ (x, y, z, 1)))), none, some (.inl (σ3 103 4))] [.inr (.inl (jm_Aw σ3 (jm_pt σ3 b)))] σ3 _
              refine jw_W_n 2 (i' := 60) (ls' := [some (.inr (.inr 103)), some (.inl x), some (.inl y), some (.inl z), some (.inl j), some (.inl b), some (.inr (.inl (jm_Aw σ (x, y, z, 1)))), none, some (.inl (σ3 103 4))]) (st' := [.inr (.inr 103), .inr (.inl (jm_Aw σ (x, y, z, 1))), .inr (.inl (jm_Aw σ3 (jm_pt σ3 b)))]) rfl ?_
              refine jw_W_gf rfl rfl rfl ?_
              show jw_W (js_S n) _ md_305 61 [some (.inr (.inr 103)), some (.inl x), some (.inl y), some (.inl z), some (.inl j), some (.inl b), some (.inr (.inl (jm_Aw σ (x, y, z, 1)))), none, some (.inl (σ3 103 4))] [.inr (.inr 128), .inr (.inl (jm_Aw σ (x, y, z, 1))), .inr (.inl (jm_Aw σ3 (jm_pt σ3 b)))] σ3 _
              refine jw_W_n 1 (i' := 62) (ls' := [some (.inr (.inr 103)), some (.inl x), some (.inl y), some (.inl z), some (.inl j), some (.inl b), some (.inr (.inl (jm_Aw σ (x, y, z, 1)))), none, some (.inl (σ3 103 4))]) (st' := [.inl b, .inr (.inr 128), .inr (.inl (jm_Aw σ (x, y, z, 1))), .inr (.inl (jm_Aw σ3 (jm_pt σ3 b)))]) rfl ?_
              refine jw_W_la rfl rfl (by omega) (by omega) (by omega) ?_
              show jw_W (js_S n) _ md_305 63 [some (.inr (.inr 103)), some (.inl x), some (.inl y), some (.inl z), some (.inl j), some (.inl b), some (.inr (.inl (jm_Aw σ (x, y, z, 1)))), none, some (.inl (σ3 103 4))] [.inr (.inl (σ3 128 b)), .inr (.inl (jm_Aw σ (x, y, z, 1))), .inr (.inl (jm_Aw σ3 (jm_pt σ3 b)))] σ3 _
              refine jw_W_n 3 (i' := 66) (ls' := [some (.inr (.inr 103)), some (.inl x), some (.inl y), some (.inl z), some (.inl j), some (.inl b), some (.inr (.inl (jm_Aw σ (x, y, z, 1)))), none, some (.inl (σ3 103 4))]) (st' := [.inr (.inr 103), .inr (.inl ((jm_Aw σ3 (jm_pt σ3 b)) - ((jm_Aw σ (x, y, z, 1)) * (σ3 128 b))))]) rfl ?_
              refine jw_W_gf rfl rfl rfl ?_
              show jw_W (js_S n) _ md_305 67 [some (.inr (.inr 103)), some (.inl x), some (.inl y), some (.inl z), some (.inl j), some (.inl b), some (.inr (.inl (jm_Aw σ (x, y, z, 1)))), none, some (.inl (σ3 103 4))] [.inr (.inr 128), .inr (.inl ((jm_Aw σ3 (jm_pt σ3 b)) - ((jm_Aw σ (x, y, z, 1)) * (σ3 128 b))))] σ3 _
              refine jw_W_n 1 (i' := 68) (ls' := [some (.inr (.inr 103)), some (.inl x), some (.inl y), some (.inl z), some (.inl j), some (.inl b), some (.inr (.inl (jm_Aw σ (x, y, z, 1)))), none, some (.inl (σ3 103 4))]) (st' := [.inl b, .inr (.inr 128), .inr (.inl ((jm_Aw σ3 (jm_pt σ3 b)) - ((jm_Aw σ (x, y, z, 1)) * (σ3 128 b))))]) rfl ?_
              refine jw_W_la rfl rfl (by omega) (by omega) (by omega) ?_
              show jw_W (js_S n) _ md_305 69 [some (.inr (.inr 103)), some (.inl x), some (.inl y), some (.inl z), some (.inl j), some (.inl b), some (.inr (.inl (jm_Aw σ (x, y, z, 1)))), none, some (.inl (σ3 103 4))] [.inr (.inl (σ3 128 b)), .inr (.inl ((jm_Aw σ3 (jm_pt σ3 b)) - ((jm_Aw σ (x, y, z, 1)) * (σ3 128 b))))] σ3 _
              refine jw_W_n 1 (i' := 70) (ls' := [some (.inr (.inr 103)), some (.inl x), some (.inl y), some (.inl z), some (.inl j), some (.inl b), some (.inr (.inl (jm_Aw σ (x, y, z, 1)))), none, some (.inl (σ3 103 4))]) (st' := [.inl j, .inr (.inl (σ3 128 b)), .inr (.inl ((jm_Aw σ3 (jm_pt σ3 b)) - ((jm_Aw σ (x, y, z, 1)) * (σ3 128 b))))]) rfl ?_
              refine jw_W_call (as := [.inr (.inl ((jm_Aw σ3 (jm_pt σ3 b)) - ((jm_Aw σ (x, y, z, 1)) * (σ3 128 b)))), .inr (.inl (σ3 128 b)), .inl j]) (rest := []) rfl rfl rfl rfl (Nat.le_of_ble_eq_true rfl) (.inl rfl) (jm_ofFr (by unfold jm_bg; omega) (by omega) (by omega) hj) (by omega) ?_ rfl
              rintro r1 σ1 ⟨rfl, hs⟩
              rw [hs]
              show jw_W (js_S n) _ md_305 71 [some (.inr (.inr 103)), some (.inl x), some (.inl y), some (.inl z), some (.inl j), some (.inl b), some (.inr (.inl (jm_Aw σ (x, y, z, 1)))), none, some (.inl (σ3 103 4))] [.inr (.inl (jm_of (jm_Aw σ3 (jm_pt σ3 b) - jm_Aw σ (x, y, z, 1) * σ3 128 b) (σ3 128 b) j))] σ3 _
              refine jw_W_lr rfl ?_
              exact ⟨_, rfl, .inr (jm_cb_fe hI), .inr ⟨⟨hip, by omega, by omega⟩, .inr ⟨hal, _, hbest, by rw [jm_Aw_fr hI.1]; rfl⟩⟩⟩
            · exact absurd hc3 (show ¬ ¬ ((1 : Int) ≠ 0) by omega)
          · rw [hs]
            show jw_W (js_S n) _ md_305 18 [some (.inr (.inr 103)), some (.inl x), some (.inl y), some (.inl z), some (.inl j), none, none, none, none] [.inl 0] σ _
            refine jw_W_if rfl (by unfold jw_rg; omega) (fun hc4 => ?_) (fun hc4 => ?_)
            · exact absurd hc4 (show ¬ ((0 : Int) ≠ 0) by omega)
            · clear hc4
              refine jw_W_ld2 (z := (-2)) rfl rfl ?_
              refine jw_W_lr rfl ?_
              exact ⟨_, rfl, .inl rfl, .inr ⟨⟨hip, by omega, by omega⟩, .inl ⟨rfl, hal⟩⟩⟩
        · exact absurd hc2 (show ¬ ¬ ((1 : Int) ≠ 0) by omega)
      · rw [hs]
        show jw_W (js_S n) _ md_305 10 [some (.inr (.inr 103)), some (.inl x), some (.inl y), some (.inl z), some (.inl j), none, none, none, none] [.inl 0] σ _
        refine jw_W_if rfl (by unfold jw_rg; omega) (fun hc5 => ?_) (fun hc5 => ?_)
        · exact absurd hc5 (show ¬ ((0 : Int) ≠ 0) by omega)
        · clear hc5
          refine jw_W_ld2 (z := (-1)) rfl rfl ?_
          refine jw_W_lr rfl ?_
          exact ⟨_, rfl, .inl rfl, .inl ⟨rfl, fun hh => by first | exact hip hh.1 | omega⟩⟩
  · rw [hs]
    show jw_W (js_S n) _ md_305 5 [some (.inr (.inr 103)), some (.inl x), some (.inl y), some (.inl z), some (.inl j), none, none, none, none] [.inl 0] σ _
    refine jw_W_if rfl (by unfold jw_rg; omega) (fun hc6 => ?_) (fun hc6 => ?_)
    · clear hc6
      refine jw_W_ld2 (z := (-1)) rfl rfl ?_
      refine jw_W_lr rfl ?_
      exact ⟨_, rfl, .inl rfl, .inl ⟨rfl, fun hh => by first | exact hip hh.1 | omega⟩⟩
    · exact absurd hc6 (show ¬ ¬ ((0 : Int) = 0) by omega)

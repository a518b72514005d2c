/-! ===== far: class and reference ===== -/
/-- the farthest of the first ones, the lowest -/
def jx_fa (σ : jw_H) (i : Int) (S : Int → Prop) (b : Int) (d : Nat) : Prop := (0 ≤ b ∧ b < σ 103 56) ∧ jx_xd σ 137 i d b ∧ ∀ c, S c → ∀ e, jx_xd σ 137 i e c → e ≤ d ∧ (c < b → e < d)
/-- the answer of far -/
def jm_faa (σ : jw_H) (i j v : Int) : Prop := (v = -1 ∧ ¬ (0 ≤ i ∧ 0 ≤ j ∧ j ≤ 1)) ∨ ((0 ≤ i ∧ 0 ≤ j ∧ j ≤ 1) ∧ ((v = -4 ∧ σ 103 56 ≤ i) ∨ (i < σ 103 56 ∧ ∃ b d, jx_fa σ i (fun c => 0 ≤ c ∧ c < σ 103 56) b d ∧ v = if j = 0 then b else (d : Int))))
theorem jm_faa_uq {σ : jw_H} {i j v w : Int} (h : jm_faa σ i j v) (h' : jm_faa σ i j w) : v = w := by
  rcases h with ⟨a, x⟩ | ⟨a, x⟩ <;> rcases h' with ⟨c, y⟩ | ⟨c, y⟩
  · omega
  · exact absurd c x
  · exact absurd a y
  · rcases x with ⟨x1, x2⟩ | ⟨x1, b, d, ⟨h1, h2, h3⟩, x2⟩ <;> rcases y with ⟨y1, y2⟩ | ⟨y1, b', d', ⟨k1, k2, k3⟩, y2⟩
    · omega
    · omega
    · omega
    · have e1 := h3 b' k1 d' k2
      have e2 := k3 b h1 d h2
      have ed : d = d' := by omega
      have eb : b = b' := by
        by_cases l1 : b < b'
        · have := e2.2 l1
          omega
        · by_cases l2 : b' < b
          · have := e1.2 l2
            omega
          · omega
      rw [x2, y2, ed, eb]
theorem jm_faa_me {σ0 σ : jw_H} (h : jx_me σ0 σ) (i j v : Int) : jm_faa σ i j v ↔ jm_faa σ0 i j v := by
  unfold jm_faa jx_fa jx_xd
  simp only [jx_by_w (h 137 (by omega)), h 103 (by omega)]
theorem jx_xd_0 {σ : jw_H} {ob : Nat} {i : Int} : jx_xd σ ob i 0 i := ⟨rfl, fun m hm => by omega⟩
/-- the same, of what walkFrom left -/
def jx_fw (σ0 : jw_H) (a : Int → Int) (m b : Int) : Prop := (0 ≤ b ∧ b < m) ∧ ∀ c, 0 ≤ c → c < m → a c ≤ a b ∧ (c < b → a c < a b)
theorem jx_fw_fa {σ : jw_H} {i b : Int} {a : Int → Int} (i0 : 0 ≤ i) (i1 : i < σ 103 56) (ha : ∀ c, 0 ≤ c → c < σ 103 56 → jx_ds σ 137 i c (a c) (-1)) (h : jx_fw σ a (σ 103 56) b) : ∃ d : Nat, a b = (d : Int) ∧ jx_fa σ i (fun c => 0 ≤ c ∧ c < σ 103 56) b d := by
  obtain ⟨h1, h2⟩ := h
  have at' : ∀ c e, 0 ≤ c → c < σ 103 56 → jx_xd σ 137 i e c → a c = (e : Int) := fun c e c0 c1 hx => by
    rcases ha c c0 c1 with ⟨d, e1, e2⟩ | ⟨-, e2⟩
    · rw [e1, jx_xd_uq hx e2]
    · exact absurd hx.1 (e2 e)
  have hi := at' i 0 i0 i1 jx_xd_0
  have hb := (h2 i i0 i1).1
  rcases ha b h1.1 h1.2 with ⟨d, e1, e2⟩ | ⟨e1, -⟩
  · refine ⟨d, e1, h1, e2, fun c hc e he => ?_⟩
    have hce := at' c e hc.1 hc.2 he
    have := h2 c hc.1 hc.2
    refine ⟨by omega, fun hcb => ?_⟩
    have := this.2 hcb
    omega
  · omega
theorem jx_far_loop {n : Nat} {σ σ0 : jw_H} {N : Int} {D : Nat} {i j : Int} {Q : Option jw_V → jw_H → Prop} (hN : 0 ≤ N ∧ N ≤ 20) (h57 : σ 57 0 = N) (hrg : ∀ c, 0 ≤ c → c < N → -1 ≤ σ 65 c ∧ σ 65 c ≤ 20) (hQ : ∀ b, jx_fw σ0 (σ 65) N b → jw_W (js_S n) D md_146 47 [some (.inr (.inr 13)), some (.inl i), some (.inl j), some (.inl b), some (.inl N)] [] σ Q) : ∀ (f : Nat) {m b : Int}, 1 ≤ m → m + f = N → jx_fw σ0 (σ 65) m b → jw_W (js_S n) D md_146 27 [some (.inr (.inr 13)), some (.inl i), some (.inl j), some (.inl b), some (.inl m)] [] σ Q
  | f, m, b, m0, hk, H => by
    have ih : ∀ {b' : Int}, m < N → jx_fw σ0 (σ 65) (m + 1) b' → jw_W (js_S n) D md_146 27 [some (.inr (.inr 13)), some (.inl i), some (.inl j), some (.inl b'), some (.inl (m + 1))] [] σ Q := by
      intro b' h1 h2
      match f, hk with
      | 0, hk => omega
      | f + 1, hk => exact jx_far_loop hN h57 hrg hQ f (by omega) (by omega) h2
    have hB := H.1
    refine jw_W_n 2 (i' := 29) (ls' := [some (.inr (.inr 13)), some (.inl i), some (.inl j), some (.inl b), some (.inl m)]) (st' := [.inr (.inr 13), .inl m]) rfl ?_
    refine jw_W_gf rfl rfl rfl ?_
    show jw_W (js_S n) _ md_146 30 [some (.inr (.inr 13)), some (.inl i), some (.inl j), some (.inl b), some (.inl m)] [.inr (.inr 57), .inl m] σ _
    refine jw_W_gf rfl rfl rfl ?_
    show jw_W (js_S n) _ md_146 31 [some (.inr (.inr 13)), some (.inl i), some (.inl j), some (.inl b), some (.inl m)] [.inl (σ 57 0), .inl m] σ _
    refine jw_W_ic rfl (by unfold jw_rg; omega) (by unfold jw_rg; omega) (fun hc1 => ?_) (fun hc1 => ?_)
    · have hc1 : m ≥ (σ 57 0) := hc1
      have hkl : m = N := by omega
      subst hkl
      exact hQ _ H
    · have hc1 : ¬ (m ≥ (σ 57 0)) := hc1
      have hr1 := hrg m (by omega) (by omega)
      have hr2 := hrg b (by omega) (by omega)
      refine jw_W_n 1 (i' := 33) (ls' := [some (.inr (.inr 13)), some (.inl i), some (.inl j), some (.inl b), some (.inl m)]) (st' := [.inr (.inr 13)]) rfl ?_
      refine jw_W_gf rfl rfl rfl ?_
      show jw_W (js_S n) _ md_146 34 [some (.inr (.inr 13)), some (.inl i), some (.inl j), some (.inl b), some (.inl m)] [.inr (.inr 57)] σ _
      refine jw_W_gf rfl rfl rfl ?_
      show jw_W (js_S n) _ md_146 35 [some (.inr (.inr 13)), some (.inl i), some (.inl j), some (.inl b), some (.inl m)] [.inr (.inr 65)] σ _
      refine jw_W_n 1 (i' := 36) (ls' := [some (.inr (.inr 13)), some (.inl i), some (.inl j), some (.inl b), some (.inl m)]) (st' := [.inl m, .inr (.inr 65)]) rfl ?_
      refine jw_W_ia rfl rfl (by omega) (by omega) (by omega) ?_
      show jw_W (js_S n) _ md_146 37 [some (.inr (.inr 13)), some (.inl i), some (.inl j), some (.inl b), some (.inl m)] [.inl (σ 65 m)] σ _
      refine jw_W_n 1 (i' := 38) (ls' := [some (.inr (.inr 13)), some (.inl i), some (.inl j), some (.inl b), some (.inl m)]) (st' := [.inr (.inr 13), .inl (σ 65 m)]) rfl ?_
      refine jw_W_gf rfl rfl rfl ?_
      show jw_W (js_S n) _ md_146 39 [some (.inr (.inr 13)), some (.inl i), some (.inl j), some (.inl b), some (.inl m)] [.inr (.inr 57), .inl (σ 65 m)] σ _
      refine jw_W_gf rfl rfl rfl ?_
      show jw_W (js_S n) _ md_146 40 [some (.inr (.inr 13)), some (.inl i), some (.inl j), some (.inl b), some (.inl m)] [.inr (.inr 65), .inl (σ 65 m)] σ _
      refine jw_W_n 1 (i' := 41) (ls' := [some (.inr (.inr 13)), some (.inl i), some (.inl j), some (.inl b), some (.inl m)]) (st' := [.inl b, .inr (.inr 65), .inl (σ 65 m)]) rfl ?_
      refine jw_W_ia rfl rfl (by omega) (by omega) (by omega) ?_
      show jw_W (js_S n) _ md_146 42 [some (.inr (.inr 13)), some (.inl i), some (.inl j), some (.inl b), some (.inl m)] [.inl (σ 65 b), .inl (σ 65 m)] σ _
      refine jw_W_ic rfl (by unfold jw_rg; omega) (by unfold jw_rg; omega) (fun hc2 => ?_) (fun hc2 => ?_)
      · have hc2 : (σ 65 m) ≤ (σ 65 b) := hc2
        refine jw_W_n 2 (i' := 27) (ls' := [some (.inr (.inr 13)), some (.inl i), some (.inl j), some (.inl b), some (.inl (m + 1))]) (st' := []) rfl ?_
        exact ih (by omega) ⟨by omega, fun c c0 c1 => by
          by_cases ec : c = m
          · rw [ec]; omega
          · have := H.2 c c0 (by omega); omega⟩
      · have hc2 : ¬ ((σ 65 m) ≤ (σ 65 b)) := hc2
        refine jw_W_n 4 (i' := 27) (ls' := [some (.inr (.inr 13)), some (.inl i), some (.inl j), some (.inl m), some (.inl (m + 1))]) (st' := []) rfl ?_
        exact ih (by omega) ⟨by omega, fun c c0 c1 => by
          by_cases ec : c = m
          · rw [ec]; omega
          · have := H.2 c c0 (by omega); omega⟩
theorem jx_far {n : Nat} {σ : jw_H} {o : Nat} {C : List (ge_R × Int)} (hK : jx_K n o C σ) {i j : Int} (hi : jw_rg i) (hj : jw_rg j) : jw_T (js_S n) 8 146 [.inr (.inr 13), .inl i, .inl j] σ (fun r σ' => ∃ v, r = some (.inl v) ∧ jx_fx σ σ' ∧ jx_jj σ' ∧ jm_faa σ i j v) := by
  refine jw_T_of (D := 7) (M := mm_146) rfl (Nat.le_of_ble_eq_true rfl) (ls0 := [some (.inr (.inr 13)), some (.inl i), some (.inl j), none, none]) rfl ?_ (by rintro _ _ ⟨_, rfl, -⟩; rfl)
  have hI := hK.1
  obtain ⟨hto, hfo, hp, hP, e0, e1, e2, hPm, hcb, c0, p0, -⟩ := jx_I0_x hI
  have ho := hp.1
  have hq := hP.1
  have hw := hP.2.1
  have hq2 := hP.2.2.1
  have hcn := hcb.1
  have rhi := hi
  unfold jw_rg at rhi
  have rhj := hj
  unfold jw_rg at rhj
  refine jw_W_n 1 (i' := 1) (ls' := [some (.inr (.inr 13)), some (.inl i), some (.inl j), none, none]) (st' := [.inl i]) rfl ?_
  refine jw_W_if rfl (by unfold jw_rg; omega) (fun hc1 => ?_) (fun hc1 => ?_)
  · have hc1 : i < 0 := hc1
    refine jw_W_n 1 (i' := 7) (ls' := [some (.inr (.inr 13)), some (.inl i), some (.inl j), none, none]) (st' := [.inl ((-1))]) rfl ?_
    refine jw_W_ir rfl ?_
    exact ⟨_, rfl, jx_fx_rf σ, hK.2.2, .inl ⟨rfl, by omega⟩⟩
  · have hc1 : ¬ (i < 0) := hc1
    refine jw_W_n 2 (i' := 4) (ls' := [some (.inr (.inr 13)), some (.inl i), some (.inl j), none, none]) (st' := [.inl j, .inr (.inr 13)]) rfl ?_
    refine jw_W_call (as := [.inr (.inr 13), .inl j]) (rest := []) rfl rfl rfl rfl (Nat.le_of_ble_eq_true rfl) (.inr rfl) (jx_isPart hK hj) (by omega) ?_ rfl
    rintro r1 σz (⟨rfl, hs, q1⟩ | ⟨rfl, hs, q1⟩)
    · rw [hs]
      show jw_W (js_S n) _ md_146 5 [some (.inr (.inr 13)), some (.inl i), some (.inl j), none, none] [.inl 1] σ _
      refine jw_W_if rfl (by unfold jw_rg; omega) (fun hc2 => ?_) (fun hc2 => ?_)
      · clear hc2
        refine jw_W_n 2 (i' := 10) (ls' := [some (.inr (.inr 13)), some (.inl i), some (.inl j), none, none]) (st' := [.inr (.inr 13), .inl i]) rfl ?_
        refine jw_W_gf rfl rfl rfl ?_
        show jw_W (js_S n) _ md_146 11 [some (.inr (.inr 13)), some (.inl i), some (.inl j), none, none] [.inr (.inr 57), .inl i] σ _
        refine jw_W_gf rfl rfl rfl ?_
        show jw_W (js_S n) _ md_146 12 [some (.inr (.inr 13)), some (.inl i), some (.inl j), none, none] [.inl (σ 57 0), .inl i] σ _
        refine jw_W_ic rfl (by unfold jw_rg; omega) (by unfold jw_rg; omega) (fun hc3 => ?_) (fun hc3 => ?_)
        · have hc3 : i < (σ 57 0) := hc3
          refine jw_W_n 1 (i' := 16) (ls' := [some (.inr (.inr 13)), some (.inl i), some (.inl j), none, none]) (st' := [.inr (.inr 13)]) rfl ?_
          refine jw_W_gf rfl rfl rfl ?_
          show jw_W (js_S n) _ md_146 17 [some (.inr (.inr 13)), some (.inl i), some (.inl j), none, none] [.inr (.inr 57)] σ _
          refine jw_W_call (as := [.inr (.inr 57)]) (rest := []) rfl rfl rfl rfl (Nat.le_of_ble_eq_true rfl) (.inr rfl) (jx_judgeK hK) (by omega) ?_ rfl
          rintro r1 σ1 ⟨rfl, hf1, hK1⟩
          have hI1 := hK1.1
          have hfo1 := hI1.2.1.1
          have hto1 : (σ1 13 2).toNat = o := by have := hI1.1.1; omega
          have hKN1 := hK1.2.1
          have hjd1 := hK1.2.2.2
          have hme1 := jx_fx_me hf1
          have e1031 : σ1 103 = σ 103 := hme1 103 (by omega)
          have e5701 : σ1 57 0 = σ 103 56 := by rw [← e1031]; exact hI1.2.1.2.1
          have hI1x := jx_I0_x hI1
          have hPm1 := hI1x.2.2.2.2.2.2.2.1
          have hcb1 := hI1x.2.2.2.2.2.2.2.2.1
          have e0561 : σ1 103 56 = σ 103 56 := by rw [e1031]
          have e0031 : σ1 103 3 = σ 103 3 := by rw [e1031]
          have e0041 : σ1 103 4 = σ 103 4 := by rw [e1031]
          have e0051 : σ1 103 5 = σ 103 5 := by rw [e1031]
          show jw_W (js_S n) _ md_146 18 [some (.inr (.inr 13)), some (.inl i), some (.inl j), none, none] [] σ1 _
          refine jw_W_n 1 (i' := 19) (ls' := [some (.inr (.inr 13)), some (.inl i), some (.inl j), none, none]) (st' := [.inr (.inr 13)]) rfl ?_
          refine jw_W_gf rfl rfl rfl ?_
          show jw_W (js_S n) _ md_146 20 [some (.inr (.inr 13)), some (.inl i), some (.inl j), none, none] [.inr (.inr 57)] σ1 _
          refine jw_W_n 2 (i' := 22) (ls' := [some (.inr (.inr 13)), some (.inl i), some (.inl j), none, none]) (st' := [.inl 1, .inl i, .inr (.inr 57)]) rfl ?_
          refine jw_W_call (as := [.inr (.inr 57), .inl i, .inl 1]) (rest := []) rfl rfl rfl rfl (Nat.le_of_ble_eq_true rfl) (.inr rfl) (jx_walkFrom hK1 (ob := 137) (.inl ⟨rfl, rfl⟩) (by omega) (by omega)) (by omega) ?_ rfl
          rintro r1 σ2 ⟨rfl, hwa⟩
          have hf2 := jx_fx_tr hf1 (jx_fy_x (jx_f65_y hwa.1))
          have hK2 := jx_KJ_65 hwa.1 hK1
          have hfo2 : (σ2 57 6).toNat = o := hK2.1.2.1.1
          have hto2 : (σ2 13 2).toNat = o := by have := hK2.1.1.1; omega
          have e5702 : σ2 57 0 = σ 103 56 := by rw [hwa.1 57 (by omega)]; exact e5701
          have hds : ∀ c, 0 ≤ c → c < σ 103 56 → jx_ds σ 137 i c (σ2 65 c) (-1) := fun c c0 c1 => by
            have := hwa.2 c c0 (by omega)
            rw [jx_ds_w (hme1 137 (by omega))] at this
            exact this
          have hrg : ∀ c, 0 ≤ c → c < σ 103 56 → -1 ≤ σ2 65 c ∧ σ2 65 c ≤ 20 := fun c c0 c1 => jx_ds_rg (hme1 103 (by omega)) hKN1 hK.2.1 (by omega) (by omega) (.inl rfl) (hds c c0 c1)
          show jw_W (js_S n) _ md_146 23 [some (.inr (.inr 13)), some (.inl i), some (.inl j), none, none] [] σ2 _
          refine jw_W_n 4 (i' := 27) (ls' := [some (.inr (.inr 13)), some (.inl i), some (.inl j), some (.inl 0), some (.inl 1)]) (st' := []) rfl ?_
          refine jx_far_loop (σ0 := σ) (N := σ 103 56) (by omega) e5702 hrg (fun b4 H4 => ?_) (σ 103 56 - 1).toNat (m := 1) (b := 0) (by omega) (by omega) ⟨by omega, fun c c0 c1 => by rw [show c = 0 by omega]; omega⟩
          obtain ⟨d4, hd4, hfa⟩ := jx_fw_fa (by omega) (by omega) hds H4
          have hb4 := hfa.1
          refine jw_W_n 1 (i' := 48) (ls' := [some (.inr (.inr 13)), some (.inl i), some (.inl j), some (.inl b4), some (.inl (σ 103 56))]) (st' := [.inl j]) rfl ?_
          refine jw_W_if rfl (by unfold jw_rg; omega) (fun hc1 => ?_) (fun hc1 => ?_)
          · have hc1 : j ≠ 0 := hc1
            refine jw_W_n 1 (i' := 52) (ls' := [some (.inr (.inr 13)), some (.inl i), some (.inl j), some (.inl b4), some (.inl (σ 103 56))]) (st' := [.inr (.inr 13)]) rfl ?_
            refine jw_W_gf rfl rfl rfl ?_
            show jw_W (js_S n) _ md_146 53 [some (.inr (.inr 13)), some (.inl i), some (.inl j), some (.inl b4), some (.inl (σ 103 56))] [.inr (.inr 57)] σ2 _
            refine jw_W_gf rfl rfl rfl ?_
            show jw_W (js_S n) _ md_146 54 [some (.inr (.inr 13)), some (.inl i), some (.inl j), some (.inl b4), some (.inl (σ 103 56))] [.inr (.inr 65)] σ2 _
            refine jw_W_n 1 (i' := 55) (ls' := [some (.inr (.inr 13)), some (.inl i), some (.inl j), some (.inl b4), some (.inl (σ 103 56))]) (st' := [.inl b4, .inr (.inr 65)]) rfl ?_
            refine jw_W_ia rfl rfl (by omega) (by omega) (by omega) ?_
            show jw_W (js_S n) _ md_146 56 [some (.inr (.inr 13)), some (.inl i), some (.inl j), some (.inl b4), some (.inl (σ 103 56))] [.inl (σ2 65 b4)] σ2 _
            refine jw_W_ir rfl ?_
            exact ⟨_, rfl, hf2, (jx_KJ_K hK2).2.2, .inr ⟨by omega, .inr ⟨by omega, b4, d4, hfa, by rw [if_neg (by omega)]; exact hd4⟩⟩⟩
          · have hc1 : j = 0 := Classical.not_not.mp hc1
            refine jw_W_n 2 (i' := 56) (ls' := [some (.inr (.inr 13)), some (.inl i), some (.inl j), some (.inl b4), some (.inl (σ 103 56))]) (st' := [.inl b4]) rfl ?_
            refine jw_W_ir rfl ?_
            exact ⟨_, rfl, hf2, (jx_KJ_K hK2).2.2, .inr ⟨by omega, .inr ⟨by omega, b4, d4, hfa, by rw [if_pos (by omega)]⟩⟩⟩
        · have hc3 : ¬ (i < (σ 57 0)) := hc3
          refine jw_W_n 1 (i' := 14) (ls' := [some (.inr (.inr 13)), some (.inl i), some (.inl j), none, none]) (st' := [.inl ((-4))]) rfl ?_
          refine jw_W_ir rfl ?_
          exact ⟨_, rfl, jx_fx_rf σ, hK.2.2, .inr ⟨by omega, .inl ⟨rfl, by omega⟩⟩⟩
      · exact absurd hc2 (show ¬ ¬ ((1 : Int) ≠ 0) by omega)
    · rw [hs]
      show jw_W (js_S n) _ md_146 5 [some (.inr (.inr 13)), some (.inl i), some (.inl j), none, none] [.inl 0] σ _
      refine jw_W_if rfl (by unfold jw_rg; omega) (fun hc4 => ?_) (fun hc4 => ?_)
      · exact absurd hc4 (show ¬ ((0 : Int) ≠ 0) by omega)
      · clear hc4
        refine jw_W_n 1 (i' := 7) (ls' := [some (.inr (.inr 13)), some (.inl i), some (.inl j), none, none]) (st' := [.inl ((-1))]) rfl ?_
        refine jw_W_ir rfl ?_
        exact ⟨_, rfl, jx_fx_rf σ, hK.2.2, .inl ⟨rfl, by omega⟩⟩
theorem jx_ds_r2 {σ : jw_H} {C : List (ge_R × Int)} (hK : jm_KN σ C) {i c v : Int} (i0 : 0 ≤ i) (i1 : i < σ 103 56) (hd : jx_ds σ 137 i c v (-2)) : -2 ≤ v ∧ v ≤ 20 := by
  have hn := ((jm_kw_cbd hK.1).2 σ (jm_fk_rf σ)).1
  rcases hd with ⟨d, e, hx⟩ | ⟨e, -⟩
  · have := jx_xd_lt hK (.inl rfl) i0 i1 hx
    omega
  · omega
theorem jx_ds_at {σ : jw_H} {i c v : Int} {d : Nat} (hd : jx_ds σ 137 i c v (-2)) (hx : jx_xd σ 137 i d c) : v = (d : Int) := by
  rcases hd with ⟨e, e1, e2⟩ | ⟨-, e2⟩
  · rw [e1, jx_xd_uq hx e2]
  · exact absurd hx.1 (e2 d)
theorem jx_ds_ge {σ : jw_H} {i c v : Int} (hd : jx_ds σ 137 i c v (-2)) (h0 : -1 ≤ v) : ∃ d : Nat, v = (d : Int) ∧ jx_xd σ 137 i d c := by
  rcases hd with h | ⟨e, -⟩
  · exact h
  · omega
theorem jx_fa_s1 {σ : jw_H} {i m b : Int} {d : Nat} {v1 : Int} (h : jx_fa σ i (fun c => (0 ≤ c ∧ c < m) ∨ c = i) b d) (m0 : 0 ≤ m) (m1 : m < σ 103 56) (h1 : jx_ds σ 137 i m v1 (-2)) (hv : (d : Int) < v1) : ∃ d', jx_fa σ i (fun c => (0 ≤ c ∧ c < m + 1) ∨ c = i) m d' := by
  obtain ⟨d1, e1, e2⟩ := jx_ds_ge h1 (by omega)
  refine ⟨d1, by omega, e2, fun c hc e he => ?_⟩
  by_cases ec : c = m
  · rw [ec] at he
    exact ⟨by rw [jx_xd_uq he e2]; omega, fun hh => by omega⟩
  · have := h.2.2 c (by omega) e he
    exact ⟨by omega, fun _ => by omega⟩
theorem jx_fa_s2 {σ : jw_H} {i m b : Int} {d : Nat} {v1 : Int} (h : jx_fa σ i (fun c => (0 ≤ c ∧ c < m) ∨ c = i) b d) (m0 : 0 ≤ m) (m1 : m < σ 103 56) (h1 : jx_ds σ 137 i m v1 (-2)) (hv : v1 = (d : Int)) (hmb : m < b) : jx_fa σ i (fun c => (0 ≤ c ∧ c < m + 1) ∨ c = i) m d := by
  obtain ⟨d1, e1, e2⟩ := jx_ds_ge h1 (by omega)
  have ed : d1 = d := by omega
  rw [ed] at e2
  refine ⟨by omega, e2, fun c hc e he => ?_⟩
  by_cases ec : c = m
  · rw [ec] at he
    exact ⟨by rw [jx_xd_uq he e2]; omega, fun hh => by omega⟩
  · have := h.2.2 c (by omega) e he
    exact ⟨this.1, fun hcm => this.2 (by omega)⟩
theorem jx_fa_s3 {σ : jw_H} {i m b : Int} {d : Nat} {v1 : Int} (h : jx_fa σ i (fun c => (0 ≤ c ∧ c < m) ∨ c = i) b d) (h1 : jx_ds σ 137 i m v1 (-2)) (hv : v1 ≤ (d : Int)) (hmb : v1 = (d : Int) → ¬ m < b) : jx_fa σ i (fun c => (0 ≤ c ∧ c < m + 1) ∨ c = i) b d := by
  refine ⟨h.1, h.2.1, fun c hc e he => ?_⟩
  by_cases ec : c = m
  · rw [ec] at he ⊢
    have := jx_ds_at h1 he
    exact ⟨by omega, fun hh => by
      by_cases e9 : e = d
      · exact absurd hh (hmb (by omega))
      · omega⟩
  · exact h.2.2 c (by omega) e he
theorem jm_far_loop {n : Nat} {σ : jw_H} {D : Nat} {i j : Int} {Q : Option jw_V → jw_H → Prop} (hD : 2 ≤ D) {C : List (ge_R × Int)} (hKN : jm_KN σ C) (i0 : 0 ≤ i) (i1 : i < σ 103 56) (hQ : ∀ b d a, jx_fa σ i (fun c => (0 ≤ c ∧ c < σ 103 56) ∨ c = i) b d → jw_W (js_S n) D md_315 48 [some (.inr (.inr 103)), some (.inl i), some (.inl j), some (.inl b), some (.inl (σ 103 56)), a] [] σ Q) : ∀ (f : Nat) {m b : Int} {d : Nat} {a5 : Option jw_V}, 0 ≤ m → m + f = σ 103 56 → jx_fa σ i (fun c => (0 ≤ c ∧ c < m) ∨ c = i) b d → jw_W (js_S n) D md_315 19 [some (.inr (.inr 103)), some (.inl i), some (.inl j), some (.inl b), some (.inl m), a5] [] σ Q
  | f, m, b, d, a5, m0, hk, H => by
    have ih : ∀ {b' : Int} {d' : Nat} {a5 : Option jw_V}, m < σ 103 56 → jx_fa σ i (fun c => (0 ≤ c ∧ c < m + 1) ∨ c = i) b' d' → jw_W (js_S n) D md_315 19 [some (.inr (.inr 103)), some (.inl i), some (.inl j), some (.inl b'), some (.inl (m + 1)), a5] [] σ Q := by
      intro b' d' a5 h1 h2
      match f, hk with
      | 0, hk => omega
      | f + 1, hk => exact jm_far_loop hD hKN i0 i1 hQ f (by omega) (by omega) h2
    have hB := H.1
    have hcb := (jm_kw_cbd hKN.1).2 σ (jm_fk_rf σ)
    have hcn := hcb.1
    have hPm := hKN.1.1
    have hqq := hPm.1
    have hww := hPm.2.1
    have hkk := hPm.2.2.1
    have hg57 := hKN.2.2.1.1
    have hg58 := hKN.2.2.2.1.1
    refine jw_W_n 2 (i' := 21) (ls' := [some (.inr (.inr 103)), some (.inl i), some (.inl j), some (.inl b), some (.inl m), a5]) (st' := [.inr (.inr 103), .inl m]) rfl ?_
    refine jw_W_gf rfl rfl rfl ?_
    show jw_W (js_S n) _ md_315 22 [some (.inr (.inr 103)), some (.inl i), some (.inl j), some (.inl b), some (.inl m), a5] [.inl (σ 103 56), .inl m] σ _
    refine jw_W_ic rfl (by unfold jw_rg; omega) (by unfold jw_rg; omega) (fun hc1 => ?_) (fun hc1 => ?_)
    · have hc1 : m ≥ (σ 103 56) := hc1
      have hkl : m = σ 103 56 := by omega
      subst hkl
      exact hQ _ _ _ H
    · have hc1 : ¬ (m ≥ (σ 103 56)) := hc1
      refine jw_W_n 4 (i' := 27) (ls' := [some (.inr (.inr 103)), some (.inl i), some (.inl j), some (.inl b), some (.inl m), a5]) (st' := [.inr (.inr 103), .inl m, .inl i, .inr (.inr 103)]) rfl ?_
      refine jw_W_gf rfl rfl rfl ?_
      show jw_W (js_S n) _ md_315 28 [some (.inr (.inr 103)), some (.inl i), some (.inl j), some (.inl b), some (.inl m), a5] [.inr (.inr 137), .inl m, .inl i, .inr (.inr 103)] σ _
      refine jw_W_call (as := [.inr (.inr 103), .inl i, .inl m, .inr (.inr 137)]) (rest := []) rfl rfl rfl rfl (Nat.le_of_ble_eq_true rfl) (.inr rfl) (jm_rounds137 hKN (by omega) (by omega) (by omega) (by omega)) (by omega) ?_ rfl
      rintro r1 σz ⟨v1, rfl, hs, hv1⟩
      rw [hs]
      have rv1 := jx_ds_r2 hKN (by omega) (by omega) hv1
      show jw_W (js_S n) _ md_315 29 [some (.inr (.inr 103)), some (.inl i), some (.inl j), some (.inl b), some (.inl m), a5] [.inl v1] σ _
      refine jw_W_n 4 (i' := 33) (ls' := [some (.inr (.inr 103)), some (.inl i), some (.inl j), some (.inl b), some (.inl m), a5]) (st' := [.inr (.inr 103), .inl b, .inl i, .inr (.inr 103), .inl v1]) rfl ?_
      refine jw_W_gf rfl rfl rfl ?_
      show jw_W (js_S n) _ md_315 34 [some (.inr (.inr 103)), some (.inl i), some (.inl j), some (.inl b), some (.inl m), a5] [.inr (.inr 137), .inl b, .inl i, .inr (.inr 103), .inl v1] σ _
      refine jw_W_call (as := [.inr (.inr 103), .inl i, .inl b, .inr (.inr 137)]) (rest := [.inl v1]) rfl rfl rfl rfl (Nat.le_of_ble_eq_true rfl) (.inr rfl) (jm_rounds137 hKN (by omega) (by omega) (by omega) (by omega)) (by omega) ?_ rfl
      rintro r1 σz ⟨v2, rfl, hs, hv2⟩
      rw [hs]
      have rv2 := jx_ds_r2 hKN (by omega) (by omega) hv2
      show jw_W (js_S n) _ md_315 35 [some (.inr (.inr 103)), some (.inl i), some (.inl j), some (.inl b), some (.inl m), a5] [.inl v2, .inl v1] σ _
      refine jw_W_n 3 (i' := 38) (ls' := [some (.inr (.inr 103)), some (.inl i), some (.inl j), some (.inl b), some (.inl m), some (.inl (v1 - v2))]) (st' := [.inl (v1 - v2)]) rfl ?_
      refine jw_W_if rfl (by unfold jw_rg; omega) (fun hc2 => ?_) (fun hc2 => ?_)
      · have hc2 : (v1 - v2) > 0 := hc2
        refine jw_W_n 4 (i' := 19) (ls' := [some (.inr (.inr 103)), some (.inl i), some (.inl j), some (.inl m), some (.inl (m + 1)), some (.inl (v1 - v2))]) (st' := []) rfl ?_
        have hd := jx_ds_at hv2 H.2.1
        by_cases hvv : (d : Int) < v1
        · obtain ⟨d9, h9⟩ := jx_fa_s1 H m0 (by omega) hv1 hvv
          exact ih (by omega) h9
        · exact ih (by omega) (jx_fa_s2 H m0 (by omega) hv1 (by omega) (by omega))
      · have hc2 : ¬ ((v1 - v2) > 0) := hc2
        refine jw_W_n 1 (i' := 40) (ls' := [some (.inr (.inr 103)), some (.inl i), some (.inl j), some (.inl b), some (.inl m), some (.inl (v1 - v2))]) (st' := [.inl (v1 - v2)]) rfl ?_
        refine jw_W_if rfl (by unfold jw_rg; omega) (fun hc3 => ?_) (fun hc3 => ?_)
        · have hc3 : (v1 - v2) ≠ 0 := hc3
          refine jw_W_n 2 (i' := 19) (ls' := [some (.inr (.inr 103)), some (.inl i), some (.inl j), some (.inl b), some (.inl (m + 1)), some (.inl (v1 - v2))]) (st' := []) rfl ?_
          have hd := jx_ds_at hv2 H.2.1
          exact ih (by omega) (jx_fa_s3 H hv1 (by omega) (fun h9 => by omega))
        · have hc3 : (v1 - v2) = 0 := Classical.not_not.mp hc3
          refine jw_W_n 2 (i' := 43) (ls' := [some (.inr (.inr 103)), some (.inl i), some (.inl j), some (.inl b), some (.inl m), some (.inl (v1 - v2))]) (st' := [.inl b, .inl m]) rfl ?_
          refine jw_W_ic rfl (by unfold jw_rg; omega) (by unfold jw_rg; omega) (fun hc4 => ?_) (fun hc4 => ?_)
          · have hc4 : m ≥ b := hc4
            refine jw_W_n 2 (i' := 19) (ls' := [some (.inr (.inr 103)), some (.inl i), some (.inl j), some (.inl b), some (.inl (m + 1)), some (.inl (v1 - v2))]) (st' := []) rfl ?_
            have hd := jx_ds_at hv2 H.2.1
            exact ih (by omega) (jx_fa_s3 H hv1 (by omega) (fun h9 => by omega))
          · have hc4 : ¬ (m ≥ b) := hc4
            refine jw_W_n 4 (i' := 19) (ls' := [some (.inr (.inr 103)), some (.inl i), some (.inl j), some (.inl m), some (.inl (m + 1)), some (.inl (v1 - v2))]) (st' := []) rfl ?_
            have hd := jx_ds_at hv2 H.2.1
            by_cases hvv : (d : Int) < v1
            · obtain ⟨d9, h9⟩ := jx_fa_s1 H m0 (by omega) hv1 hvv
              exact ih (by omega) h9
            · exact ih (by omega) (jx_fa_s2 H m0 (by omega) hv1 (by omega) (by omega))
theorem jm_far {n : Nat} {σ : jw_H} {C : List (ge_R × Int)} (hKN : jm_KN σ C) {i j : Int} (hi : jw_rg i) (hj : jw_rg j) : jw_T (js_S n) 3 315 [.inr (.inr 103), .inl i, .inl j] σ (fun r σ' => ∃ v, r = some (.inl v) ∧ σ' = σ ∧ jm_faa σ i j v) := by
  refine jw_T_of (D := 2) (M := mm_315) rfl (Nat.le_of_ble_eq_true rfl) (ls0 := [some (.inr (.inr 103)), some (.inl i), some (.inl j), none, none, none]) rfl ?_ (by rintro _ _ ⟨_, rfl, -⟩; rfl)
  have hcb := (jm_kw_cbd hKN.1).2 σ (jm_fk_rf σ)
  have hcn := hcb.1
  have hPm := hKN.1.1
  have hqq := hPm.1
  have hww := hPm.2.1
  have hkk := hPm.2.2.1
  have hg57 := hKN.2.2.1.1
  have hg58 := hKN.2.2.2.1.1
  have rhi := hi
  unfold jw_rg at rhi
  have rhj := hj
  unfold jw_rg at rhj
  refine jw_W_n 1 (i' := 1) (ls' := [some (.inr (.inr 103)), some (.inl i), some (.inl j), none, none, none]) (st' := [.inl i]) rfl ?_
  refine jw_W_if rfl (by unfold jw_rg; omega) (fun hc1 => ?_) (fun hc1 => ?_)
  · have hc1 : i < 0 := hc1
    refine jw_W_n 1 (i' := 8) (ls' := [some (.inr (.inr 103)), some (.inl i), some (.inl j), none, none, none]) (st' := [.inl ((-1))]) rfl ?_
    refine jw_W_ir rfl ?_
    exact ⟨_, rfl, rfl, .inl ⟨rfl, by omega⟩⟩
  · have hc1 : ¬ (i < 0) := hc1
    refine jw_W_n 3 (i' := 5) (ls' := [some (.inr (.inr 103)), some (.inl i), some (.inl j), none, none, none]) (st' := [.inl 1, .inl 0, .inl j]) rfl ?_
    refine jw_W_call (as := [.inl j, .inl 0, .inl 1]) (rest := []) rfl rfl rfl rfl (Nat.le_of_ble_eq_true rfl) (.inl rfl) (jm_in (by unfold jw_rg; omega) (by unfold jw_rg; omega) (by unfold jw_rg; omega)) (by omega) ?_ rfl
    rintro r1 σz (⟨rfl, hs, q2⟩ | ⟨rfl, hs, q2⟩)
    · rw [hs]
      show jw_W (js_S n) _ md_315 6 [some (.inr (.inr 103)), some (.inl i), some (.inl j), none, none, none] [.inl 1] σ _
      refine jw_W_if rfl (by unfold jw_rg; omega) (fun hc2 => ?_) (fun hc2 => ?_)
      · clear hc2
        refine jw_W_n 2 (i' := 11) (ls' := [some (.inr (.inr 103)), some (.inl i), some (.inl j), none, none, none]) (st' := [.inr (.inr 103), .inl i]) rfl ?_
        refine jw_W_gf rfl rfl rfl ?_
        show jw_W (js_S n) _ md_315 12 [some (.inr (.inr 103)), some (.inl i), some (.inl j), none, none, none] [.inl (σ 103 56), .inl i] σ _
        refine jw_W_ic rfl (by unfold jw_rg; omega) (by unfold jw_rg; omega) (fun hc3 => ?_) (fun hc3 => ?_)
        · have hc3 : i < (σ 103 56) := hc3
          refine jw_W_n 4 (i' := 19) (ls' := [some (.inr (.inr 103)), some (.inl i), some (.inl j), some (.inl i), some (.inl 0), none]) (st' := []) rfl ?_
          refine jm_far_loop (D := 2) (by omega) hKN (by omega) (by omega) (fun b4 d4 a4 H4 => ?_) (σ 103 56).toNat (m := 0) (b := i) (d := 0) (by omega) (by omega) ⟨by omega, jx_xd_0, fun c hc e he => by
            rw [show c = i by omega] at he ⊢
            exact ⟨by rw [jx_xd_uq he jx_xd_0]; omega, fun hh => by omega⟩⟩
          have hb4 := H4.1
          refine jw_W_n 1 (i' := 49) (ls' := [some (.inr (.inr 103)), some (.inl i), some (.inl j), some (.inl b4), some (.inl (σ 103 56)), a4]) (st' := [.inl j]) rfl ?_
          refine jw_W_if rfl (by unfold jw_rg; omega) (fun hc1 => ?_) (fun hc1 => ?_)
          · have hc1 : j ≠ 0 := hc1
            refine jw_W_n 4 (i' := 56) (ls' := [some (.inr (.inr 103)), some (.inl i), some (.inl j), some (.inl b4), some (.inl (σ 103 56)), a4]) (st' := [.inr (.inr 103), .inl b4, .inl i, .inr (.inr 103)]) rfl ?_
            refine jw_W_gf rfl rfl rfl ?_
            show jw_W (js_S n) _ md_315 57 [some (.inr (.inr 103)), some (.inl i), some (.inl j), some (.inl b4), some (.inl (σ 103 56)), a4] [.inr (.inr 137), .inl b4, .inl i, .inr (.inr 103)] σ _
            refine jw_W_call (as := [.inr (.inr 103), .inl i, .inl b4, .inr (.inr 137)]) (rest := []) rfl rfl rfl rfl (Nat.le_of_ble_eq_true rfl) (.inr rfl) (jm_rounds137 hKN (by omega) (by omega) (by omega) (by omega)) (by omega) ?_ rfl
            rintro r1 σz ⟨v2, rfl, hs, hv2⟩
            rw [hs]
            have rv2 := jx_ds_r2 hKN (by omega) (by omega) hv2
            show jw_W (js_S n) _ md_315 58 [some (.inr (.inr 103)), some (.inl i), some (.inl j), some (.inl b4), some (.inl (σ 103 56)), a4] [.inl v2] σ _
            refine jw_W_ir rfl ?_
            exact ⟨_, rfl, rfl, .inr ⟨by omega, .inr ⟨by omega, b4, d4, ⟨H4.1, H4.2.1, fun c hc e he => H4.2.2 c (.inl hc) e he⟩, by rw [if_neg (by omega)]; exact jx_ds_at hv2 H4.2.1⟩⟩⟩
          · have hc1 : j = 0 := Classical.not_not.mp hc1
            refine jw_W_n 2 (i' := 58) (ls' := [some (.inr (.inr 103)), some (.inl i), some (.inl j), some (.inl b4), some (.inl (σ 103 56)), a4]) (st' := [.inl b4]) rfl ?_
            refine jw_W_ir rfl ?_
            exact ⟨_, rfl, rfl, .inr ⟨by omega, .inr ⟨by omega, b4, d4, ⟨H4.1, H4.2.1, fun c hc e he => H4.2.2 c (.inl hc) e he⟩, by rw [if_pos (by omega)]⟩⟩⟩
        · have hc3 : ¬ (i < (σ 103 56)) := hc3
          refine jw_W_n 1 (i' := 14) (ls' := [some (.inr (.inr 103)), some (.inl i), some (.inl j), none, none, none]) (st' := [.inl ((-4))]) rfl ?_
          refine jw_W_ir rfl ?_
          exact ⟨_, rfl, rfl, .inr ⟨by omega, .inl ⟨rfl, by omega⟩⟩⟩
      · exact absurd hc2 (show ¬ ¬ ((1 : Int) ≠ 0) by omega)
    · rw [hs]
      show jw_W (js_S n) _ md_315 6 [some (.inr (.inr 103)), some (.inl i), some (.inl j), none, none, none] [.inl 0] σ _
      refine jw_W_if rfl (by unfold jw_rg; omega) (fun hc4 => ?_) (fun hc4 => ?_)
      · exact absurd hc4 (show ¬ ((0 : Int) ≠ 0) by omega)
      · clear hc4
        refine jw_W_n 1 (i' := 8) (ls' := [some (.inr (.inr 103)), some (.inl i), some (.inl j), none, none, none]) (st' := [.inl ((-1))]) rfl ?_
        refine jw_W_ir rfl ?_
        exact ⟨_, rfl, rfl, .inl ⟨rfl, by omega⟩⟩

/-! ===== chosen (class) ===== -/
/-- only the row of letters changes -/
def jq_46 (σ σ' : jw_H) : Prop := ∀ c, c ≠ 46 → σ' c = σ c
def jq_c (σ σ' : jw_H) : Prop := ∀ c, c ≠ 42 → c ≠ 43 → c ≠ 46 → σ' c = σ c
theorem jq_46_up {σ τ : jw_H} {j v : Int} (h : jq_46 σ τ) : jq_46 σ (jw_up τ 46 j v) := fun c hc => by rw [jw_up_out _ _ _ hc]; exact h c hc
theorem jq_46_c {σ τ : jw_H} (h : jq_46 σ τ) : jq_c σ τ := fun c _ _ h3 => h c h3
theorem jq_c_tr {σ σ' σ'' : jw_H} (h : jq_c σ σ') (k : jq_c σ' σ'') : jq_c σ σ'' := fun c h1 h2 h3 => (k c h1 h2 h3).trans (h c h1 h2 h3)
theorem jq_c_fw {n o : Nat} {σ σ' : jw_H} (hp : jx_po n o) (h : jq_c σ σ') : jn_fw o σ σ' := ⟨by rw [h 13 (by omega) (by omega) (by omega)], fun c hc => by have := hp.1; exact h c (by omega) (by omega) (by omega)⟩
theorem jq_KJ_c {n o : Nat} {C : List (ge_R × Int)} {σ σ' : jw_H} (hJ : jx_KJ n o C σ) (h : jq_c σ σ') : jx_KJ n o C σ' := by
  have hK := jn_K_fw (jq_c_fw (jx_I0_x hJ.1).2.2.1 h) (jx_KJ_K hJ)
  have e : σ' 57 9 = 1 := by rw [h 57 (by omega) (by omega) (by omega)]; exact hJ.2.2.1
  refine ⟨hK.1, hK.2.1, e, ?_⟩
  rcases hK.2.2 with w | w
  · omega
  · exact w.2
theorem jq_c_me {σ σ' : jw_H} (h : jq_c σ σ') : jx_me σ σ' := fun c hc => h c (by omega) (by omega) (by omega)
theorem jq_n1 {σ σ' : jw_H} (h : jq_c σ σ') (i : Int) : jx_cn (fun c => jm_nx σ' 137 i c) (σ' 103 56).toNat = jx_cn (fun c => jm_nx σ 137 i c) (σ 103 56).toNat := by
  unfold jm_nx
  rw [h 137 (by omega) (by omega) (by omega), h 103 (by omega) (by omega) (by omega)]
theorem jq_n2 {σ σ' : jw_H} (h : jq_c σ σ') (i : Int) : jx_cn (fun c => jm_nx σ' 137 i c ∧ jm_good σ' c) (σ' 103 56).toNat = jx_cn (fun c => jm_nx σ 137 i c ∧ jm_good σ c) (σ 103 56).toNat := by
  unfold jm_nx jm_good
  rw [h 137 (by omega) (by omega) (by omega), h 103 (by omega) (by omega) (by omega)]
theorem jq_fa_c {σ σ' : jw_H} (h : jq_c σ σ') (i j : Int) : jq_fa σ' i j = jq_fa σ i j := jq_fa_me (fun c h1 _ => h c (by omega) (by omega) (by omega)) (by rw [h 103 (by omega) (by omega) (by omega)]) (by rw [h 103 (by omega) (by omega) (by omega)]) (by rw [h 103 (by omega) (by omega) (by omega)]) i j
theorem jq_st_fr {σ σ' : jw_H} (h1 : σ' 1 = σ 1) (h2 : σ' 2 = σ 2) (k : jl_st σ) : jl_st σ' := by
  obtain ⟨⟨k1, k2⟩, k3⟩ := k
  refine ⟨⟨by rw [h1]; exact k1, k2⟩, fun j j0 j1 => ?_⟩
  show σ' 2 j = _ ∧ _
  rw [h2]
  exact k3 j j0 j1
theorem jq_st_c {σ σ' : jw_H} (h : jq_c σ σ') (k : jl_st σ) : jl_st σ' := jq_st_fr (h 1 (by omega) (by omega) (by omega)) (h 2 (by omega) (by omega) (by omega)) k
theorem jq_tell {n : Nat} {σ : jw_H} (hst : jl_st σ) {x v q : Int} (hx : 0 ≤ x ∧ x ≤ 255) (hf : jl_fact x = q) (hq : 0 ≤ q ∧ q < 7)  : jw_T (js_S n) 5 44 [.inr (.inr 42), .inl x, .inl v] σ (fun r σ' => r = none ∧ σ' = jw_up σ 46 q v) := by
  refine jw_T_of (D := 4) (M := mm_44) rfl (Nat.le_of_ble_eq_true rfl) (ls0 := [some (.inr (.inr 42)), some (.inl x), some (.inl v), none]) rfl ?_ (by rintro _ _ ⟨rfl, -⟩; rfl)
  refine jw_W_lds rfl ?_
  refine jw_W_n 2 (i' := 3) (ls' := [some (.inr (.inr 42)), some (.inl x), some (.inl v), none]) (st' := [.inl (jw_ch x), .inr (.inr 1)]) rfl ?_
  rw [jl_ch hx]
  refine jw_W_call (as := [.inr (.inr 1), .inl x]) (rest := []) rfl rfl rfl rfl (Nat.le_of_ble_eq_true rfl) (.inr rfl) (jl_indexOf hst hx) (by omega) ?_ rfl
  rintro r1 σz ⟨rfl, hs⟩
  rw [hs, hf]
  show jw_W (js_S n) _ md_44 4 [some (.inr (.inr 42)), some (.inl x), some (.inl v), none] [.inl q] σ _
  refine jw_W_n 2 (i' := 6) (ls' := [some (.inr (.inr 42)), some (.inl x), some (.inl v), some (.inl q)]) (st' := [.inl q]) rfl ?_
  refine jw_W_if rfl (by unfold jw_rg; omega) (fun hc1 => ?_) (fun hc1 => ?_)
  · have hc1 : q < 0 := hc1
    refine jw_W_re rfl ?_
    exfalso; omega
  · have hc1 : ¬ (q < 0) := hc1
    refine jw_W_n 1 (i' := 8) (ls' := [some (.inr (.inr 42)), some (.inl x), some (.inl v), some (.inl q)]) (st' := [.inr (.inr 42)]) rfl ?_
    refine jw_W_gf rfl rfl rfl ?_
    show jw_W (js_S n) _ md_44 9 [some (.inr (.inr 42)), some (.inl x), some (.inl v), some (.inl q)] [.inr (.inr 46)] σ _
    refine jw_W_n 2 (i' := 11) (ls' := [some (.inr (.inr 42)), some (.inl x), some (.inl v), some (.inl q)]) (st' := [.inl v, .inl q, .inr (.inr 46)]) rfl ?_
    refine jw_W_is rfl (by omega) rfl (by omega) (by omega) (by omega) ?_
    refine jw_W_re rfl ?_
    exact ⟨rfl, rfl⟩
theorem jq_let {k : Int} (k0 : 0 ≤ k) (k3 : k < 3) : jl_fact (97 + k) = 1 + k := by
  rcases (show k = 0 ∨ k = 1 ∨ k = 2 by omega) with rfl | rfl | rfl <;> rfl
theorem jq_tell_loop {n : Nat} {σ : jw_H} {o : Nat} {C : List (ge_R × Int)} (hJ : jx_KJ n o C σ) (hst : jl_st σ) {i : Int} (i0 : 0 ≤ i) (i1 : i < σ 103 56) : ∀ (f : Nat) {τ : jw_H} {k : Int} {x3 : Option jw_V}, 0 ≤ k → k + (f : Int) = 3 → jq_46 σ τ → (∀ j, 0 ≤ j → j < 1 + k → τ 46 j = jq_fa σ i j) → jw_W (js_S n) 5 md_156 7 [some (.inr (.inr 13)), some (.inl i), some (.inl k), x3] [] τ (fun r σ' => r = none ∧ jq_46 σ σ' ∧ ∀ j, 0 ≤ j → j < 7 → σ' 46 j = jq_fa σ i j)
  | f, τ, k, x3, k0, hk, hf, hrow => by
    have hJτ := jq_KJ_c hJ (jq_46_c hf)
    have hcτ := hf
    have hstτ := jq_st_c (jq_46_c hf) hst
    obtain ⟨hto, hfo, hp, hP, e0, e1, e2, hPm, hcb, c0, p0, -⟩ := jx_I0_x hJτ.1
    have ho := hp.1
    have hcn := hcb.1
    have hww := hPm.2.1
    have e103 : τ 103 = σ 103 := hf 103 (by omega)
    have e4 : τ 103 4 = σ 103 4 := by rw [e103]
    have e56 : τ 103 56 = σ 103 56 := by rw [e103]
    have eW : jm_W τ k = jm_W σ k := by unfold jm_W; rw [hf 104 (by omega)]
    have eC : jm_ct τ i = jm_ct σ i := by unfold jm_ct; rw [hf 132 (by omega), hf 133 (by omega), hf 134 (by omega), hf 135 (by omega)]
    have hci := jx_I0_c hJτ.1 i0 (show i < τ 103 56 by omega)
    have e62 : τ 62 i = σ 135 i := (congrArg (fun v : ge_R => v.2.2.2) hci.1).trans (congrArg (fun v : ge_R => v.2.2.2) eC)
    have e63 : τ 63 i = σ 136 i := hci.2.1.trans (by rw [hf 136 (by omega)])
    have ht := (jm_tg hJ.2.1 i0 i1).1
    have hcw := jm_cw hcb i0 (show i < τ 103 56 by omega)
    have hcw2 : τ 135 i ≤ 162 := (hcb.2 i i0 (by omega)).2
    have e135 : τ 135 i = σ 135 i := by rw [hf 135 (by omega)]
    have hwb : k < σ 103 4 → -100000 ≤ ge_f (jm_W σ k) (jm_ct σ i) ∧ ge_f (jm_W σ k) (jm_ct σ i) ≤ 100000 := fun w => by
      have := jm_f_bd (jm_W_sm hPm (k := k) k0 (by omega)) (hcb.2 i i0 (by omega)).1
      rw [eW, eC] at this
      omega
    have hn4 := jx_cn_le (fun k => jb_in (σ 136 i) k.toNat) 20
    have hn5 := jx_cn_le (fun c => jm_nx σ 137 i c) (σ 103 56).toNat
    have hn6 := jx_cn_le (fun c => jm_nx σ 137 i c ∧ jm_good σ c) (σ 103 56).toNat
    have next : ∀ {υ : jw_H} {x3 : Option jw_V}, k < 3 → jq_46 σ υ → (∀ j, 0 ≤ j → j < 1 + (k + 1) → υ 46 j = jq_fa σ i j) → jw_W (js_S n) 5 md_156 7 [some (.inr (.inr 13)), some (.inl i), some (.inl (k + 1)), x3] [] υ (fun r σ' => r = none ∧ jq_46 σ σ' ∧ ∀ j, 0 ≤ j → j < 7 → σ' 46 j = jq_fa σ i j) := by
      intro υ x3 h3 h1 h2
      match f, hk with
      | 0, hk => omega
      | f + 1, hk => exact jq_tell_loop hJ hst i0 i1 f (by omega) (by omega) h1 h2
    refine jw_W_n 2 (i' := 9) (ls' := [some (.inr (.inr 13)), some (.inl i), some (.inl k), x3]) (st' := [.inl 3, .inl k]) rfl ?_
    refine jw_W_ic rfl (by unfold jw_rg; omega) (by unfold jw_rg; omega) (fun hc1 => ?_) (fun hc1 => ?_)
    · have hc1 : k ≥ 3 := hc1
      refine jw_W_n 1 (i' := 53) (ls' := [some (.inr (.inr 13)), some (.inl i), some (.inl k), x3]) (st' := [.inr (.inr 13)]) rfl ?_
      refine jw_W_gf rfl rfl rfl ?_
      show jw_W (js_S n) _ md_156 54 [some (.inr (.inr 13)), some (.inl i), some (.inl k), x3] [.inr (.inr 42)] τ _
      refine jw_W_n 2 (i' := 56) (ls' := [some (.inr (.inr 13)), some (.inl i), some (.inl k), x3]) (st' := [.inr (.inr 13), .inl 116, .inr (.inr 42)]) rfl ?_
      refine jw_W_gf rfl rfl rfl ?_
      show jw_W (js_S n) _ md_156 57 [some (.inr (.inr 13)), some (.inl i), some (.inl k), x3] [.inr (.inr 57), .inl 116, .inr (.inr 42)] τ _
      refine jw_W_gf rfl rfl rfl ?_
      show jw_W (js_S n) _ md_156 58 [some (.inr (.inr 13)), some (.inl i), some (.inl k), x3] [.inr (.inr 63), .inl 116, .inr (.inr 42)] τ _
      refine jw_W_n 1 (i' := 59) (ls' := [some (.inr (.inr 13)), some (.inl i), some (.inl k), x3]) (st' := [.inl i, .inr (.inr 63), .inl 116, .inr (.inr 42)]) rfl ?_
      refine jw_W_ia rfl rfl (by omega) (by omega) (by omega) ?_
      show jw_W (js_S n) _ md_156 60 [some (.inr (.inr 13)), some (.inl i), some (.inl k), x3] [.inl (τ 63 i), .inl 116, .inr (.inr 42)] τ _
      rw [e63]
      refine jw_W_call (as := [.inl (σ 136 i)]) (rest := [.inl 116, .inr (.inr 42)]) rfl rfl rfl rfl (Nat.le_of_ble_eq_true rfl) (.inl rfl) (jx_bitCount ht.1 ht.2) (by omega) ?_ rfl
      rintro r1 σz ⟨rfl, hs⟩
      rw [hs]
      show jw_W (js_S n) _ md_156 61 [some (.inr (.inr 13)), some (.inl i), some (.inl k), x3] [.inl (jx_cn (fun k => jb_in (σ 136 i) k.toNat) 20), .inl 116, .inr (.inr 42)] τ _
      refine jw_W_call (as := [.inr (.inr 42), .inl 116, .inl (jx_cn (fun k => jb_in (σ 136 i) k.toNat) 20)]) (rest := []) rfl rfl rfl rfl (Nat.le_of_ble_eq_true rfl) (.inr rfl) (jq_tell hstτ (x := 116) (q := 4) (by omega) rfl (by omega)) (by omega) ?_ rfl
      rintro r1 σ1 ⟨rfl, hsσ1⟩
      rename jw_H => σ1
      have hcσ1 : jq_46 σ σ1 := by rw [hsσ1]; exact jq_46_up hf
      have hst1 := jq_st_c (jq_46_c hcσ1) hst
      have hJ1 := jq_KJ_c hJ (jq_46_c hcσ1)
      show jw_W (js_S n) _ md_156 62 [some (.inr (.inr 13)), some (.inl i), some (.inl k), x3] [] σ1 _
      refine jw_W_n 1 (i' := 63) (ls' := [some (.inr (.inr 13)), some (.inl i), some (.inl k), x3]) (st' := [.inr (.inr 13)]) rfl ?_
      refine jw_W_gf rfl rfl rfl ?_
      show jw_W (js_S n) _ md_156 64 [some (.inr (.inr 13)), some (.inl i), some (.inl k), x3] [.inr (.inr 42)] σ1 _
      refine jw_W_n 2 (i' := 66) (ls' := [some (.inr (.inr 13)), some (.inl i), some (.inl k), x3]) (st' := [.inr (.inr 13), .inl 110, .inr (.inr 42)]) rfl ?_
      refine jw_W_gf rfl rfl rfl ?_
      show jw_W (js_S n) _ md_156 67 [some (.inr (.inr 13)), some (.inl i), some (.inl k), x3] [.inr (.inr 57), .inl 110, .inr (.inr 42)] σ1 _
      refine jw_W_n 2 (i' := 69) (ls' := [some (.inr (.inr 13)), some (.inl i), some (.inl k), x3]) (st' := [.inl 1, .inl i, .inr (.inr 57), .inl 110, .inr (.inr 42)]) rfl ?_
      refine jw_W_call (as := [.inr (.inr 57), .inl i, .inl 1]) (rest := [.inl 110, .inr (.inr 42)]) rfl rfl rfl rfl (Nat.le_of_ble_eq_true rfl) (.inr rfl) (jx_linksOf1 hJ1 i0 (by rw [hcσ1 103 (by omega)]; exact i1)) (by omega) ?_ rfl
      rintro r1 σz ⟨rfl, hs⟩
      rw [hs, jq_n1 (jq_46_c hcσ1)]
      show jw_W (js_S n) _ md_156 70 [some (.inr (.inr 13)), some (.inl i), some (.inl k), x3] [.inl (jx_cn (fun c => jm_nx σ 137 i c) (σ 103 56).toNat), .inl 110, .inr (.inr 42)] σ1 _
      refine jw_W_call (as := [.inr (.inr 42), .inl 110, .inl (jx_cn (fun c => jm_nx σ 137 i c) (σ 103 56).toNat)]) (rest := []) rfl rfl rfl rfl (Nat.le_of_ble_eq_true rfl) (.inr rfl) (jq_tell hst1 (x := 110) (q := 5) (by omega) rfl (by omega)) (by omega) ?_ rfl
      rintro r1 σ2 ⟨rfl, hsσ2⟩
      rename jw_H => σ2
      have hcσ2 : jq_46 σ σ2 := by rw [hsσ2]; exact jq_46_up hcσ1
      have hst2 := jq_st_c (jq_46_c hcσ2) hst
      have hJ2 := jq_KJ_c hJ (jq_46_c hcσ2)
      show jw_W (js_S n) _ md_156 71 [some (.inr (.inr 13)), some (.inl i), some (.inl k), x3] [] σ2 _
      refine jw_W_n 1 (i' := 72) (ls' := [some (.inr (.inr 13)), some (.inl i), some (.inl k), x3]) (st' := [.inr (.inr 13)]) rfl ?_
      refine jw_W_gf rfl rfl rfl ?_
      show jw_W (js_S n) _ md_156 73 [some (.inr (.inr 13)), some (.inl i), some (.inl k), x3] [.inr (.inr 42)] σ2 _
      refine jw_W_n 2 (i' := 75) (ls' := [some (.inr (.inr 13)), some (.inl i), some (.inl k), x3]) (st' := [.inr (.inr 13), .inl 101, .inr (.inr 42)]) rfl ?_
      refine jw_W_gf rfl rfl rfl ?_
      show jw_W (js_S n) _ md_156 76 [some (.inr (.inr 13)), some (.inl i), some (.inl k), x3] [.inr (.inr 57), .inl 101, .inr (.inr 42)] σ2 _
      refine jw_W_n 1 (i' := 77) (ls' := [some (.inr (.inr 13)), some (.inl i), some (.inl k), x3]) (st' := [.inl i, .inr (.inr 57), .inl 101, .inr (.inr 42)]) rfl ?_
      refine jw_W_call (as := [.inr (.inr 57), .inl i]) (rest := [.inl 101, .inr (.inr 42)]) rfl rfl rfl rfl (Nat.le_of_ble_eq_true rfl) (.inr rfl) (jx_effNb hJ2 i0 (by rw [hcσ2 103 (by omega)]; exact i1)) (by omega) ?_ rfl
      rintro r1 σz ⟨rfl, hs⟩
      rw [hs, jq_n2 (jq_46_c hcσ2)]
      show jw_W (js_S n) _ md_156 78 [some (.inr (.inr 13)), some (.inl i), some (.inl k), x3] [.inl (jx_cn (fun c => jm_nx σ 137 i c ∧ jm_good σ c) (σ 103 56).toNat), .inl 101, .inr (.inr 42)] σ2 _
      refine jw_W_call (as := [.inr (.inr 42), .inl 101, .inl (jx_cn (fun c => jm_nx σ 137 i c ∧ jm_good σ c) (σ 103 56).toNat)]) (rest := []) rfl rfl rfl rfl (Nat.le_of_ble_eq_true rfl) (.inr rfl) (jq_tell hst2 (x := 101) (q := 6) (by omega) rfl (by omega)) (by omega) ?_ rfl
      rintro r1 σ3 ⟨rfl, hsσ3⟩
      rename jw_H => σ3
      have hcσ3 : jq_46 σ σ3 := by rw [hsσ3]; exact jq_46_up hcσ2
      have hst3 := jq_st_c (jq_46_c hcσ3) hst
      have hJ3 := jq_KJ_c hJ (jq_46_c hcσ3)
      show jw_W (js_S n) _ md_156 79 [some (.inr (.inr 13)), some (.inl i), some (.inl k), x3] [] σ3 _
      refine jw_W_re rfl ?_
      refine ⟨rfl, hcσ3, fun j j0 j1 => ?_⟩
      rcases (show j < 4 ∨ j = 4 ∨ j = 5 ∨ j = 6 by omega) with hj | hj | hj | hj
      · rw [hsσ3, jw_up_ne _ (by omega), hsσ2, jw_up_ne _ (by omega), hsσ1, jw_up_ne _ (by omega)]
        exact hrow j j0 (by omega)
      · rw [hj, hsσ3, jw_up_ne _ (by omega), hsσ2, jw_up_ne _ (by omega), hsσ1, jw_up_eq, jq_fa_4]
      · rw [hj, hsσ3, jw_up_ne _ (by omega), hsσ2, jw_up_eq, jq_fa_5]
      · rw [hj, hsσ3, jw_up_eq, jq_fa_6]
    · have hc1 : ¬ (k ≥ 3) := hc1
      refine jw_W_n 4 (i' := 14) (ls' := [some (.inr (.inr 13)), some (.inl i), some (.inl k), some (.inl 0)]) (st' := [.inr (.inr 13), .inl k]) rfl ?_
      refine jw_W_gf rfl rfl rfl ?_
      show jw_W (js_S n) _ md_156 15 [some (.inr (.inr 13)), some (.inl i), some (.inl k), some (.inl 0)] [.inr (.inr ((τ 13 2).toNat)), .inl k] τ _
      rw [hto]
      refine jw_W_gf rfl hp.2.1 rfl ?_
      show jw_W (js_S n) _ md_156 16 [some (.inr (.inr 13)), some (.inl i), some (.inl k), some (.inl 0)] [.inl (τ o 1), .inl k] τ _
      refine jw_W_ic rfl (by unfold jw_rg; omega) (by unfold jw_rg; omega) (fun hc2 => ?_) (fun hc2 => ?_)
      · have hc2 : k ≥ (τ o 1) := hc2
        refine jw_W_n 1 (i' := 44) (ls' := [some (.inr (.inr 13)), some (.inl i), some (.inl k), some (.inl 0)]) (st' := [.inr (.inr 13)]) rfl ?_
        refine jw_W_gf rfl rfl rfl ?_
        show jw_W (js_S n) _ md_156 45 [some (.inr (.inr 13)), some (.inl i), some (.inl k), some (.inl 0)] [.inr (.inr 42)] τ _
        refine jw_W_n 4 (i' := 49) (ls' := [some (.inr (.inr 13)), some (.inl i), some (.inl k), some (.inl 0)]) (st' := [.inl 0, .inl (97 + k), .inr (.inr 42)]) rfl ?_
        refine jw_W_call (as := [.inr (.inr 42), .inl (97 + k), .inl 0]) (rest := []) rfl rfl rfl rfl (Nat.le_of_ble_eq_true rfl) (.inr rfl) (jq_tell hstτ (x := 97 + k) (q := 1 + k) (by omega) (jq_let k0 (by omega)) (by omega)) (by omega) ?_ rfl
        rintro r1 σz ⟨rfl, hsυ⟩
        rename jw_H => υ
        show jw_W (js_S n) _ md_156 50 [some (.inr (.inr 13)), some (.inl i), some (.inl k), some (.inl 0)] [] υ _
        refine jw_W_n 2 (i' := 7) (ls' := [some (.inr (.inr 13)), some (.inl i), some (.inl (k + 1)), some (.inl 0)]) (st' := []) rfl ?_
        refine next (by omega) (by rw [hsυ]; exact jq_46_up hf) (fun j j0 j1 => ?_)
        by_cases ej : j = 1 + k
        · rw [ej, hsυ, jw_up_eq, jq_fa_w k0 (by omega), if_neg (by omega)]
        · rw [hsυ, jw_up_ne _ (by omega)]
          exact hrow j j0 (by omega)
      · have hc2 : ¬ (k ≥ (τ o 1)) := hc2
        refine jw_W_n 1 (i' := 18) (ls' := [some (.inr (.inr 13)), some (.inl i), some (.inl k), some (.inl 0)]) (st' := [.inr (.inr 13)]) rfl ?_
        refine jw_W_gf rfl rfl rfl ?_
        show jw_W (js_S n) _ md_156 19 [some (.inr (.inr 13)), some (.inl i), some (.inl k), some (.inl 0)] [.inr (.inr 57)] τ _
        refine jw_W_gf rfl rfl rfl ?_
        show jw_W (js_S n) _ md_156 20 [some (.inr (.inr 13)), some (.inl i), some (.inl k), some (.inl 0)] [.inr (.inr 58)] τ _
        refine jw_W_gf rfl rfl rfl ?_
        show jw_W (js_S n) _ md_156 21 [some (.inr (.inr 13)), some (.inl i), some (.inl k), some (.inl 0)] [.inr (.inr 62)] τ _
        refine jw_W_n 1 (i' := 22) (ls' := [some (.inr (.inr 13)), some (.inl i), some (.inl k), some (.inl 0)]) (st' := [.inl i, .inr (.inr 62)]) rfl ?_
        refine jw_W_ia rfl rfl (by omega) (by omega) (by omega) ?_
        show jw_W (js_S n) _ md_156 23 [some (.inr (.inr 13)), some (.inl i), some (.inl k), some (.inl 0)] [.inl (τ 62 i)] τ _
        rw [e62]
        refine jw_W_if rfl (by unfold jw_rg; omega) (fun hc3 => ?_) (fun hc3 => ?_)
        · have hc3 : (σ 135 i) = 0 := hc3
          refine jw_W_n 1 (i' := 44) (ls' := [some (.inr (.inr 13)), some (.inl i), some (.inl k), some (.inl 0)]) (st' := [.inr (.inr 13)]) rfl ?_
          refine jw_W_gf rfl rfl rfl ?_
          show jw_W (js_S n) _ md_156 45 [some (.inr (.inr 13)), some (.inl i), some (.inl k), some (.inl 0)] [.inr (.inr 42)] τ _
          refine jw_W_n 4 (i' := 49) (ls' := [some (.inr (.inr 13)), some (.inl i), some (.inl k), some (.inl 0)]) (st' := [.inl 0, .inl (97 + k), .inr (.inr 42)]) rfl ?_
          refine jw_W_call (as := [.inr (.inr 42), .inl (97 + k), .inl 0]) (rest := []) rfl rfl rfl rfl (Nat.le_of_ble_eq_true rfl) (.inr rfl) (jq_tell hstτ (x := 97 + k) (q := 1 + k) (by omega) (jq_let k0 (by omega)) (by omega)) (by omega) ?_ rfl
          rintro r1 σz ⟨rfl, hsυ⟩
          rename jw_H => υ
          show jw_W (js_S n) _ md_156 50 [some (.inr (.inr 13)), some (.inl i), some (.inl k), some (.inl 0)] [] υ _
          refine jw_W_n 2 (i' := 7) (ls' := [some (.inr (.inr 13)), some (.inl i), some (.inl (k + 1)), some (.inl 0)]) (st' := []) rfl ?_
          refine next (by omega) (by rw [hsυ]; exact jq_46_up hf) (fun j j0 j1 => ?_)
          by_cases ej : j = 1 + k
          · rw [ej, hsυ, jw_up_eq, jq_fa_w k0 (by omega), if_neg (by omega)]
          · rw [hsυ, jw_up_ne _ (by omega)]
            exact hrow j j0 (by omega)
        · have hc3 : ¬ ((σ 135 i) = 0) := hc3
          refine jw_W_n 1 (i' := 25) (ls' := [some (.inr (.inr 13)), some (.inl i), some (.inl k), some (.inl 0)]) (st' := [.inr (.inr 13)]) rfl ?_
          refine jw_W_gf rfl rfl rfl ?_
          show jw_W (js_S n) _ md_156 26 [some (.inr (.inr 13)), some (.inl i), some (.inl k), some (.inl 0)] [.inr (.inr 57)] τ _
          refine jw_W_gf rfl rfl rfl ?_
          show jw_W (js_S n) _ md_156 27 [some (.inr (.inr 13)), some (.inl i), some (.inl k), some (.inl 0)] [.inr (.inr 58)] τ _
          refine jw_W_n 2 (i' := 29) (ls' := [some (.inr (.inr 13)), some (.inl i), some (.inl k), some (.inl 0)]) (st' := [.inr (.inr 13), .inl i, .inr (.inr 58)]) rfl ?_
          refine jw_W_gf rfl rfl rfl ?_
          show jw_W (js_S n) _ md_156 30 [some (.inr (.inr 13)), some (.inl i), some (.inl k), some (.inl 0)] [.inr (.inr ((τ 13 2).toNat)), .inl i, .inr (.inr 58)] τ _
          rw [hto]
          refine jw_W_gf rfl hp.2.1 rfl ?_
          show jw_W (js_S n) _ md_156 31 [some (.inr (.inr 13)), some (.inl i), some (.inl k), some (.inl 0)] [.inr (.inr (o + 1)), .inl i, .inr (.inr 58)] τ _
          refine jw_W_n 3 (i' := 34) (ls' := [some (.inr (.inr 13)), some (.inl i), some (.inl k), some (.inl 0)]) (st' := [.inl (3 * k), .inr (.inr (o + 1)), .inl i, .inr (.inr 58)]) rfl ?_
          refine jw_W_call (as := [.inr (.inr 58), .inl i, .inr (.inr (o + 1)), .inl (3 * k)]) (rest := []) rfl rfl rfl rfl (Nat.le_of_ble_eq_true rfl) (.inr rfl) (jx_value (f := 3 * k) (jx_pp_58 n) hp.2.2.1 (by omega) (by omega) (by omega) (i := i) (by omega) (by omega)) (by omega) ?_ rfl
          rintro r1 σz ⟨rfl, hs⟩
          rw [hs, (jx_I0_W hJτ.1 (show 0 ≤ k by omega) (show k < τ 103 4 by omega)).1, (jx_I0_c hJτ.1 i0 (by omega)).1, eW, eC]
          show jw_W (js_S n) _ md_156 35 [some (.inr (.inr 13)), some (.inl i), some (.inl k), some (.inl 0)] [.inl (ge_f (jm_W σ k) (jm_ct σ i))] τ _
          refine jw_W_n 1 (i' := 36) (ls' := [some (.inr (.inr 13)), some (.inl i), some (.inl k), some (.inl 0)]) (st' := [.inr (.inr 13), .inl (ge_f (jm_W σ k) (jm_ct σ i))]) rfl ?_
          refine jw_W_gf rfl rfl rfl ?_
          show jw_W (js_S n) _ md_156 37 [some (.inr (.inr 13)), some (.inl i), some (.inl k), some (.inl 0)] [.inr (.inr 57), .inl (ge_f (jm_W σ k) (jm_ct σ i))] τ _
          refine jw_W_gf rfl rfl rfl ?_
          show jw_W (js_S n) _ md_156 38 [some (.inr (.inr 13)), some (.inl i), some (.inl k), some (.inl 0)] [.inr (.inr 58), .inl (ge_f (jm_W σ k) (jm_ct σ i))] τ _
          refine jw_W_gf rfl rfl rfl ?_
          show jw_W (js_S n) _ md_156 39 [some (.inr (.inr 13)), some (.inl i), some (.inl k), some (.inl 0)] [.inr (.inr 62), .inl (ge_f (jm_W σ k) (jm_ct σ i))] τ _
          refine jw_W_n 1 (i' := 40) (ls' := [some (.inr (.inr 13)), some (.inl i), some (.inl k), some (.inl 0)]) (st' := [.inl i, .inr (.inr 62), .inl (ge_f (jm_W σ k) (jm_ct σ i))]) rfl ?_
          refine jw_W_ia rfl rfl (by omega) (by omega) (by omega) ?_
          show jw_W (js_S n) _ md_156 41 [some (.inr (.inr 13)), some (.inl i), some (.inl k), some (.inl 0)] [.inl (τ 62 i), .inl (ge_f (jm_W σ k) (jm_ct σ i))] τ _
          rw [e62]
          refine jw_W_call (as := [.inl (ge_f (jm_W σ k) (jm_ct σ i)), .inl (σ 135 i)]) (rest := []) rfl rfl rfl rfl (Nat.le_of_ble_eq_true rfl) (.inl rfl) (jq_floorDiv (hwb (by omega)) (by omega)) (by omega) ?_ rfl
          rintro r1 σz ⟨rfl, hs⟩
          rw [hs]
          show jw_W (js_S n) _ md_156 42 [some (.inr (.inr 13)), some (.inl i), some (.inl k), some (.inl 0)] [.inl (ge_f (jm_W σ k) (jm_ct σ i) / σ 135 i)] τ _
          refine jw_W_n 2 (i' := 44) (ls' := [some (.inr (.inr 13)), some (.inl i), some (.inl k), some (.inl (ge_f (jm_W σ k) (jm_ct σ i) / σ 135 i))]) (st' := [.inr (.inr 13)]) rfl ?_
          refine jw_W_gf rfl rfl rfl ?_
          show jw_W (js_S n) _ md_156 45 [some (.inr (.inr 13)), some (.inl i), some (.inl k), some (.inl (ge_f (jm_W σ k) (jm_ct σ i) / σ 135 i))] [.inr (.inr 42)] τ _
          refine jw_W_n 4 (i' := 49) (ls' := [some (.inr (.inr 13)), some (.inl i), some (.inl k), some (.inl (ge_f (jm_W σ k) (jm_ct σ i) / σ 135 i))]) (st' := [.inl (ge_f (jm_W σ k) (jm_ct σ i) / σ 135 i), .inl (97 + k), .inr (.inr 42)]) rfl ?_
          refine jw_W_call (as := [.inr (.inr 42), .inl (97 + k), .inl (ge_f (jm_W σ k) (jm_ct σ i) / σ 135 i)]) (rest := []) rfl rfl rfl rfl (Nat.le_of_ble_eq_true rfl) (.inr rfl) (jq_tell hstτ (x := 97 + k) (q := 1 + k) (by omega) (jq_let k0 (by omega)) (by omega)) (by omega) ?_ rfl
          rintro r1 σz ⟨rfl, hsυ⟩
          rename jw_H => υ
          show jw_W (js_S n) _ md_156 50 [some (.inr (.inr 13)), some (.inl i), some (.inl k), some (.inl (ge_f (jm_W σ k) (jm_ct σ i) / σ 135 i))] [] υ _
          refine jw_W_n 2 (i' := 7) (ls' := [some (.inr (.inr 13)), some (.inl i), some (.inl (k + 1)), some (.inl (ge_f (jm_W σ k) (jm_ct σ i) / σ 135 i))]) (st' := []) rfl ?_
          refine next (by omega) (by rw [hsυ]; exact jq_46_up hf) (fun j j0 j1 => ?_)
          by_cases ej : j = 1 + k
          · rw [ej, hsυ, jw_up_eq, jq_fa_w k0 (by omega), if_pos (by omega)]
          · rw [hsυ, jw_up_ne _ (by omega)]
            exact hrow j j0 (by omega)
theorem jq_tellLaw {n : Nat} {σ : jw_H} {o : Nat} {C : List (ge_R × Int)} (hJ : jx_KJ n o C σ) (hst : jl_st σ) {i : Int} (i0 : 0 ≤ i) (i1 : i < σ 103 56)  : jw_T (js_S n) 6 156 [.inr (.inr 13), .inl i] σ (fun r σ' => r = none ∧ jq_46 σ σ' ∧ ∀ j, 0 ≤ j → j < 7 → σ' 46 j = jq_fa σ i j) := by
  refine jw_T_of (D := 5) (M := mm_156) rfl (Nat.le_of_ble_eq_true rfl) (ls0 := [some (.inr (.inr 13)), some (.inl i), none, none]) rfl ?_ (by rintro _ _ ⟨rfl, -⟩; rfl)
  refine jw_W_n 1 (i' := 1) (ls' := [some (.inr (.inr 13)), some (.inl i), none, none]) (st' := [.inr (.inr 13)]) rfl ?_
  refine jw_W_gf rfl rfl rfl ?_
  show jw_W (js_S n) _ md_156 2 [some (.inr (.inr 13)), some (.inl i), none, none] [.inr (.inr 42)] σ _
  refine jw_W_n 2 (i' := 4) (ls' := [some (.inr (.inr 13)), some (.inl i), none, none]) (st' := [.inl i, .inl 105, .inr (.inr 42)]) rfl ?_
  refine jw_W_call (as := [.inr (.inr 42), .inl 105, .inl i]) (rest := []) rfl rfl rfl rfl (Nat.le_of_ble_eq_true rfl) (.inr rfl) (jq_tell hst (x := 105) (q := 0) (by omega) rfl (by omega)) (by omega) ?_ rfl
  rintro r1 σ0 ⟨rfl, hsσ0⟩
  rename jw_H => σ0
  have hcσ0 : jq_46 σ σ0 := by rw [hsσ0]; exact jq_46_up (fun _ _ => rfl)
  have hst0 := jq_st_c (jq_46_c hcσ0) hst
  have hJ0 := jq_KJ_c hJ (jq_46_c hcσ0)
  show jw_W (js_S n) _ md_156 5 [some (.inr (.inr 13)), some (.inl i), none, none] [] σ0 _
  refine jw_W_n 2 (i' := 7) (ls' := [some (.inr (.inr 13)), some (.inl i), some (.inl 0), none]) (st' := []) rfl ?_
  exact jq_tell_loop hJ hst i0 i1 3 (k := 0) (by omega) (by omega) hcσ0 (fun j j0 j1 => by rw [show j = 0 by omega, jq_fa_0, hsσ0, jw_up_eq])
/-- the rules that the class holds as a text -/
def jq_L (b : Int → Int) (k : Int) : List jl_Q := if 0 < k then (jl_law b k).2.2 else []
/-- the class's law: its flags, its text -/
def jq_lw (b : Int → Int) (σ : jw_H) : Prop := jl_cv σ ∧ (0 ≤ σ 42 5 ∧ σ 42 5 ≤ 240) ∧ (∀ j, 0 ≤ j → j < σ 42 5 → σ 45 j = b j ∧ 0 ≤ b j ∧ b j ≤ 255) ∧ (0 < σ 42 5 → (jl_law b (σ 42 5)).1 = 0)
/-- the law itself is as it was -/
def jq_42 (σ σ' : jw_H) : Prop := ∀ j, j ≠ 1 → j ≠ 2 → j ≠ 7 → j ≠ 8 → j ≠ 9 → σ' 42 j = σ 42 j
theorem jq_42_tr {σ σ' σ'' : jw_H} (h : jq_42 σ σ') (k : jq_42 σ' σ'') : jq_42 σ σ'' := fun j h1 h2 h3 h4 h5 => (k j h1 h2 h3 h4 h5).trans (h j h1 h2 h3 h4 h5)
theorem jq_ask {n : Nat} {b : Int → Int} {σ : jw_H} (h : jq_lw b σ) : jw_T (js_S n) 30 45 [.inr (.inr 42)] σ (fun r σ' => r = none ∧ jq_c σ σ' ∧ jq_42 σ σ' ∧ jq_lw b σ' ∧ σ' 42 1 = (jl_do (fun j => σ 46 j) (jq_L b (σ 42 5)) (0, 0, 0)).1 ∧ σ' 42 2 = (jl_do (fun j => σ 46 j) (jq_L b (σ 42 5)) (0, 0, 0)).2.1) := by
  obtain ⟨h1, h2, h3, h4⟩ := h
  refine jw_T_mono (jl_ask h1 h2 h3 h4) (Nat.le_refl _) ?_
  rintro r σ' ⟨rfl, a1, a2, a3, a4, a5, a6⟩
  have e5 : σ' 42 5 = σ 42 5 := a2 5 (by omega) (by omega) (by omega) (by omega) (by omega)
  refine ⟨rfl, fun c d1 d2 d3 => a1 c d1 d2, a2, ⟨⟨a3, a4, ?_, ?_⟩, by rw [e5]; exact h2, ?_, by rw [e5]; exact h4⟩, ?_, ?_⟩
  · exact jq_st_fr (a1 1 (by omega) (by omega)) (a1 2 (by omega) (by omega)) h1.2.2.1
  · rw [a1 46 (by omega) (by omega)]
    exact h1.2.2.2
  · rw [e5, a1 45 (by omega) (by omega)]
    exact h3
  · rw [a5]
    unfold jq_L
    split
    · rfl
    · rfl
  · rw [a6]
    unfold jq_L
    split
    · rfl
    · rfl
theorem jq_lw_46 {b : Int → Int} {σ σ' : jw_H} (h : jq_lw b σ) (hc : jq_46 σ σ') (hr : ∀ j, 0 ≤ j → j < 7 → jw_rg (σ' 46 j)) : jq_lw b σ' := by
  obtain ⟨⟨h1, h2, h3, h4⟩, h5, h6, h7⟩ := h
  unfold jq_lw jl_cv
  rw [hc 42 (by omega), hc 45 (by omega)]
  exact ⟨⟨h1, h2, jq_st_c (jq_46_c hc) h3, hr⟩, h5, h6, h7⟩
theorem jl_do_01 {e : Int → Int} : ∀ (L : List jl_Q) {w : Int × Int × Int}, (w.2.1 = 0 ∨ w.2.1 = 1) → ((jl_do e L w).2.1 = 0 ∨ (jl_do e L w).2.1 = 1)
  | [], w, h => h
  | q :: L, w, h => by
    rw [jl_do_c]
    refine jl_do_01 L ?_
    by_cases c1 : jl_rt e q.2.2 = 1
    · by_cases c2 : q.1 = 120
      · rw [jl_ef_x c1 c2]
        exact .inr rfl
      · rw [jl_ef_v c1 c2]
        split
        · exact h
        · exact h
    · rw [jl_ef_no c1]
      exact h
/-- the class's choice against the reference's -/
def jq_bt (R : Int × Int) (u v : Int) : Prop := (u = -1 ∧ R = (-100000, -100000)) ∨ (0 ≤ u ∧ u = R.1 ∧ v = R.2)
/-- codes of the grammar name only the letters there are -/
theorem jq_gd_let {b : Bool} {c : List (Int × Int)} (h : jl_gd b c) : ∀ q, q ∈ c → q.1 = 1 → 0 ≤ q.2 ∧ q.2 < 7 := by
  refine h (fun _ c => ∀ q, q ∈ c → q.1 = 1 → 0 ≤ q.2 ∧ q.2 < 7) (fun v h0 _ q hq h1 => ?_) (fun v h0 h7 q hq h1 => ?_) (fun A B o hA hB h1 h2 q hq h3 => ?_) (fun A B o hA hB h1 h2 q hq h3 => ?_) (fun A hA q hq h3 => ?_) (fun A B hA hB q hq h3 => ?_) (fun A B hA hB q hq h3 => ?_)
  · rw [List.mem_singleton.mp hq] at h1
    exact absurd h1 (by show ¬ ((0 : Int) = 1); omega)
  · rw [List.mem_singleton.mp hq]
    exact ⟨h0, h7⟩
  · rcases List.mem_append.mp hq with hq | hq
    · exact (List.mem_append.mp hq).elim (fun w => hA q w h3) (fun w => hB q w h3)
    · rw [List.mem_singleton.mp hq] at h3
      have h4 : o = 1 := h3
      omega
  · rcases List.mem_append.mp hq with hq | hq
    · exact (List.mem_append.mp hq).elim (fun w => hA q w h3) (fun w => hB q w h3)
    · rw [List.mem_singleton.mp hq] at h3
      have h4 : o = 1 := h3
      omega
  · rcases List.mem_append.mp hq with hq | hq
    · exact hA q hq h3
    · rw [List.mem_singleton.mp hq] at h3
      exact absurd h3 (by show ¬ ((10 : Int) = 1); omega)
  · rcases List.mem_append.mp hq with hq | hq
    · exact hA q hq h3
    · rcases List.mem_cons.mp hq with rfl | hq
      · exact absurd h3 (by show ¬ ((11 : Int) = 1); omega)
      · exact hB q hq h3
  · rcases List.mem_append.mp hq with hq | hq
    · exact hA q hq h3
    · rcases List.mem_cons.mp hq with rfl | hq
      · exact absurd h3 (by show ¬ ((12 : Int) = 1); omega)
      · exact hB q hq h3
theorem jq_run_fn {e e' : Int → Int} : ∀ (c : List (Int × Int)), (∀ q, q ∈ c → q.1 = 1 → e q.2 = e' q.2) → ∀ (k : Nat) (st : List Int), jl_run e c k st = jl_run e' c k st
  | [], h, k, st => by
    rw [jl_run, jl_run]
  | q :: c, h, k, st => by
    have ih := jq_run_fn c (fun q hq => h q (List.mem_cons_of_mem _ hq))
    match k with
    | k + 1 =>
      rw [jl_run, jl_run]
      exact ih k st
    | 0 =>
      rw [jl_run, jl_run]
      simp only [ih]
      by_cases h1 : q.1 = 1
      · rw [h q List.mem_cons_self h1]
      · simp only [if_neg h1]
theorem jq_rt_fn {e e' : Int → Int} {b : Bool} {c : List (Int × Int)} (hg : jl_gd b c) (h : ∀ j, 0 ≤ j → j < 7 → e j = e' j) : jl_rt e c = jl_rt e' c := by
  unfold jl_rt
  rw [jq_run_fn c (fun q hq h1 => by have := jq_gd_let hg q hq h1; exact h _ this.1 this.2)]
/-- rules as the grammar makes them -/
def jq_gL (L : List jl_Q) : Prop := ∀ q, q ∈ L → (q.1 = 118 ∨ q.1 = 120) ∧ jl_gd true q.2.2 ∧ (q.1 = 118 → jl_gd false q.2.1)
theorem jq_mc_gL {σ : jw_H} {L : List jl_Q} (h : jl_mc σ L) : jq_gL L := by
  intro q hq
  obtain ⟨t, ht⟩ := List.mem_iff_getElem?.mp hq
  obtain ⟨h1, h2, h3, h4, h5, h6, h7, h8, h9, h10⟩ := h.2.2 t q ht
  exact ⟨h2, h9, h10⟩
theorem jq_do_fn {e e' : Int → Int} : ∀ {L : List jl_Q}, jq_gL L → (∀ j, 0 ≤ j → j < 7 → e j = e' j) → ∀ w : Int × Int × Int, jl_do e L w = jl_do e' L w
  | [], hg, h, w => rfl
  | q :: L, hg, h, w => by
    have h1 := hg q List.mem_cons_self
    have ee : jl_ef e q w = jl_ef e' q w := by
      unfold jl_ef
      rw [jq_rt_fn h1.2.1 h]
      by_cases c : q.1 = 120
      · rw [if_pos c, if_pos c]
      · rw [if_neg c, if_neg c, jq_rt_fn (h1.2.2 (h1.1.resolve_right c)) h]
    rw [jl_do_c, jl_do_c, ee]
    exact jq_do_fn (fun q hq => hg q (List.mem_cons_of_mem _ hq)) h _
theorem jq_do_46 {σ1 : jw_H} {e : Int → Int} {L : List jl_Q} {w : Int × Int × Int} (hg : jq_gL L) (h : ∀ j, 0 ≤ j → j < 7 → σ1 46 j = e j) : jl_do (fun j => σ1 46 j) L w = jl_do e L w := jq_do_fn (fun q hq => (hg q hq)) h w
theorem jq_chc_loop {n : Nat} {σ : jw_H} {o : Nat} {C : List (ge_R × Int)} (hJ : jx_KJ n o C σ) {b : Int → Int} (hgr : jq_gL (jq_L b (σ 42 5))) {w : Int} (hw : w = 0 ∨ w = 1) : ∀ (f : Nat) {τ : jw_H} {i u v : Int}, 0 ≤ i → i + (f : Int) = σ 103 56 → jq_c σ τ → jq_42 σ τ → jq_lw b τ → jq_bt (jq_ch σ (jq_L b (σ 42 5)) i.toNat) u v → (-1 ≤ u ∧ u ≤ 100) → (-9999 ≤ v ∧ v ≤ 9999) → jw_W (js_S n) 30 md_155 15 [some (.inr (.inr 13)), some (.inl w), some (.inl u), some (.inl v), some (.inl i)] [] τ (fun r σ' => r = some (.inl (if w = 0 then (jq_ch σ (jq_L b (σ 42 5)) (σ 103 56).toNat).1 else (jq_ch σ (jq_L b (σ 42 5)) (σ 103 56).toNat).2)) ∧ jq_c σ σ' ∧ jq_42 σ σ' ∧ jq_lw b σ')
  | f, τ, i, u, v, i0, hk, hc, h42, hlw, hbt, hu, hv => by
    have hJτ := jq_KJ_c hJ hc
    obtain ⟨hto, hfo, hp, hP, e0, e1, e2, hPm, hcb, c0, p0, -⟩ := jx_I0_x hJτ.1
    have hcn := hcb.1
    have e103 : τ 103 = σ 103 := hc 103 (by omega) (by omega) (by omega)
    have e56 : τ 103 56 = σ 103 56 := by rw [e103]
    have e5 : τ 42 5 = σ 42 5 := h42 5 (by omega) (by omega) (by omega) (by omega) (by omega)
    have hgd : jm_good τ i = jm_good σ i := by unfold jm_good; rw [e103]
    have hdr := jq_do_rg (jq_fa σ i) (jq_L b (σ 42 5)) (w := (0, 0, 0)) (by show -9999 ≤ (0 : Int) ∧ (0 : Int) ≤ 9999; omega)
    have hd01 := jl_do_01 (e := jq_fa σ i) (jq_L b (σ 42 5)) (w := (0, 0, 0)) (.inl rfl)
    have next : i < σ 103 56 → ∀ {υ : jw_H} {u' v' : Int}, jq_c σ υ → jq_42 σ υ → jq_lw b υ → jq_bt (jq_ch σ (jq_L b (σ 42 5)) (i + 1).toNat) u' v' → (-1 ≤ u' ∧ u' ≤ 100) → (-9999 ≤ v' ∧ v' ≤ 9999) → jw_W (js_S n) 30 md_155 15 [some (.inr (.inr 13)), some (.inl w), some (.inl u'), some (.inl v'), some (.inl (i + 1))] [] υ (fun r σ' => r = some (.inl (if w = 0 then (jq_ch σ (jq_L b (σ 42 5)) (σ 103 56).toNat).1 else (jq_ch σ (jq_L b (σ 42 5)) (σ 103 56).toNat).2)) ∧ jq_c σ σ' ∧ jq_42 σ σ' ∧ jq_lw b σ') := by
      intro h1 υ u' v' h2 h3 h4 h5 h6 h7
      match f, hk with
      | 0, hk => omega
      | f + 1, hk => exact jq_chc_loop hJ hgr hw f (by omega) (by omega) h2 h3 h4 h5 h6 h7
    have stepn : ¬ (jm_good σ i ∧ (jl_do (jq_fa σ i) (jq_L b (σ 42 5)) (0, 0, 0)).2.1 ≠ 1 ∧ (jq_ch σ (jq_L b (σ 42 5)) i.toNat).2 < (jl_do (jq_fa σ i) (jq_L b (σ 42 5)) (0, 0, 0)).1) → i < σ 103 56 → ∀ {υ : jw_H}, jq_c σ υ → jq_42 σ υ → jq_lw b υ → jw_W (js_S n) 30 md_155 15 [some (.inr (.inr 13)), some (.inl w), some (.inl u), some (.inl v), some (.inl (i + 1))] [] υ (fun r σ' => r = some (.inl (if w = 0 then (jq_ch σ (jq_L b (σ 42 5)) (σ 103 56).toNat).1 else (jq_ch σ (jq_L b (σ 42 5)) (σ 103 56).toNat).2)) ∧ jq_c σ σ' ∧ jq_42 σ σ' ∧ jq_lw b σ') := by
      intro hn h1 υ h2 h3 h4
      exact next h1 h2 h3 h4 (by rw [jq_ch_n i0 hn]; exact hbt) hu hv
    have stepy : (jm_good σ i ∧ (jl_do (jq_fa σ i) (jq_L b (σ 42 5)) (0, 0, 0)).2.1 ≠ 1 ∧ (jq_ch σ (jq_L b (σ 42 5)) i.toNat).2 < (jl_do (jq_fa σ i) (jq_L b (σ 42 5)) (0, 0, 0)).1) → i < σ 103 56 → ∀ {υ : jw_H}, jq_c σ υ → jq_42 σ υ → jq_lw b υ → jw_W (js_S n) 30 md_155 15 [some (.inr (.inr 13)), some (.inl w), some (.inl i), some (.inl ((jl_do (jq_fa σ i) (jq_L b (σ 42 5)) (0, 0, 0)).1)), some (.inl (i + 1))] [] υ (fun r σ' => r = some (.inl (if w = 0 then (jq_ch σ (jq_L b (σ 42 5)) (σ 103 56).toNat).1 else (jq_ch σ (jq_L b (σ 42 5)) (σ 103 56).toNat).2)) ∧ jq_c σ σ' ∧ jq_42 σ σ' ∧ jq_lw b σ') := by
      intro hy h1 υ h2 h3 h4
      exact next h1 h2 h3 h4 (by rw [jq_ch_y i0 hy]; exact .inr ⟨i0, rfl, rfl⟩) (by omega) hdr
    refine jw_W_n 2 (i' := 17) (ls' := [some (.inr (.inr 13)), some (.inl w), some (.inl u), some (.inl v), some (.inl i)]) (st' := [.inr (.inr 13), .inl i]) rfl ?_
    refine jw_W_gf rfl rfl rfl ?_
    show jw_W (js_S n) _ md_155 18 [some (.inr (.inr 13)), some (.inl w), some (.inl u), some (.inl v), some (.inl i)] [.inr (.inr 57), .inl i] τ _
    refine jw_W_gf rfl rfl rfl ?_
    show jw_W (js_S n) _ md_155 19 [some (.inr (.inr 13)), some (.inl w), some (.inl u), some (.inl v), some (.inl i)] [.inl (τ 57 0), .inl i] τ _
    refine jw_W_ic rfl (by unfold jw_rg; omega) (by unfold jw_rg; omega) (fun hc1 => ?_) (fun hc1 => ?_)
    · have hc1 : i ≥ (τ 57 0) := hc1
      refine jw_W_n 1 (i' := 51) (ls' := [some (.inr (.inr 13)), some (.inl w), some (.inl u), some (.inl v), some (.inl i)]) (st' := [.inl u]) rfl ?_
      refine jw_W_if rfl (by unfold jw_rg; omega) (fun hc2 => ?_) (fun hc2 => ?_)
      · have hc2 : u ≥ 0 := hc2
        refine jw_W_n 1 (i' := 55) (ls' := [some (.inr (.inr 13)), some (.inl w), some (.inl u), some (.inl v), some (.inl i)]) (st' := [.inl w]) rfl ?_
        refine jw_W_if rfl (by unfold jw_rg; omega) (fun hc3 => ?_) (fun hc3 => ?_)
        · have hc3 : w ≠ 0 := hc3
          refine jw_W_n 1 (i' := 59) (ls' := [some (.inr (.inr 13)), some (.inl w), some (.inl u), some (.inl v), some (.inl i)]) (st' := [.inl v]) rfl ?_
          refine jw_W_ir rfl ?_
          have hkl : i = σ 103 56 := by omega
          rw [← hkl]
          rcases hbt with h1 | ⟨h1, h2, h3⟩
          · omega
          · exact ⟨by rw [if_neg (by omega), h3], hc, h42, hlw⟩
        · have hc3 : w = 0 := Classical.not_not.mp hc3
          refine jw_W_n 2 (i' := 59) (ls' := [some (.inr (.inr 13)), some (.inl w), some (.inl u), some (.inl v), some (.inl i)]) (st' := [.inl u]) rfl ?_
          refine jw_W_ir rfl ?_
          have hkl : i = σ 103 56 := by omega
          rw [← hkl]
          rcases hbt with h1 | ⟨h1, h2, h3⟩
          · omega
          · exact ⟨by rw [if_pos (by omega), h2], hc, h42, hlw⟩
      · have hc2 : ¬ (u ≥ 0) := hc2
        refine jw_W_ldc (z := (-100000)) rfl rfl ?_
        refine jw_W_ir rfl ?_
        have hkl : i = σ 103 56 := by omega
        rw [← hkl]
        rcases hbt with ⟨h1, h2⟩ | h1
        · rw [h2]
          exact ⟨by split <;> rfl, hc, h42, hlw⟩
        · omega
    · have hc1 : ¬ (i ≥ (τ 57 0)) := hc1
      refine jw_W_n 1 (i' := 21) (ls' := [some (.inr (.inr 13)), some (.inl w), some (.inl u), some (.inl v), some (.inl i)]) (st' := [.inr (.inr 13)]) rfl ?_
      refine jw_W_gf rfl rfl rfl ?_
      show jw_W (js_S n) _ md_155 22 [some (.inr (.inr 13)), some (.inl w), some (.inl u), some (.inl v), some (.inl i)] [.inr (.inr 57)] τ _
      refine jw_W_n 1 (i' := 23) (ls' := [some (.inr (.inr 13)), some (.inl w), some (.inl u), some (.inl v), some (.inl i)]) (st' := [.inl i, .inr (.inr 57)]) rfl ?_
      refine jw_W_call (as := [.inr (.inr 57), .inl i]) (rest := []) rfl rfl rfl rfl (Nat.le_of_ble_eq_true rfl) (.inr rfl) (jx_isEfficient hJτ i0 (by omega)) (by omega) ?_ rfl
      rintro r1 σz (⟨rfl, hs, hg⟩ | ⟨rfl, hs, hg⟩)
      · rw [hs]
        rw [hgd] at hg
        show jw_W (js_S n) _ md_155 24 [some (.inr (.inr 13)), some (.inl w), some (.inl u), some (.inl v), some (.inl i)] [.inl 1] τ _
        refine jw_W_if rfl (by unfold jw_rg; omega) (fun hc4 => ?_) (fun hc4 => ?_)
        · exact absurd hc4 (show ¬ ((1 : Int) = 0) by omega)
        · clear hc4
          refine jw_W_n 2 (i' := 27) (ls' := [some (.inr (.inr 13)), some (.inl w), some (.inl u), some (.inl v), some (.inl i)]) (st' := [.inl i, .inr (.inr 13)]) rfl ?_
          refine jw_W_call (as := [.inr (.inr 13), .inl i]) (rest := []) rfl rfl rfl rfl (Nat.le_of_ble_eq_true rfl) (.inr rfl) (jq_tellLaw hJτ hlw.1.2.2.1 i0 (by omega)) (by omega) ?_ rfl
          rintro r1 σ1 ⟨rfl, hc1, hr1⟩
          rename jw_H => σ1
          have hr1 : ∀ j, 0 ≤ j → j < 7 → σ1 46 j = jq_fa σ i j := fun j j0 j7 => (hr1 j j0 j7).trans (jq_fa_c hc i j)
          have hlw1 := jq_lw_46 hlw hc1 (fun j j0 j7 => by rw [hr1 j j0 j7]; exact jq_fa_rg hJ.2.1 i0 (by omega) j j0 j7)
          have hcc1 := jq_c_tr hc (jq_46_c hc1)
          have h421 : jq_42 σ σ1 := jq_42_tr h42 (fun j _ _ _ _ _ => by rw [hc1 42 (by omega)])
          have e51 : σ1 42 5 = σ 42 5 := h421 5 (by omega) (by omega) (by omega) (by omega) (by omega)
          show jw_W (js_S n) _ md_155 28 [some (.inr (.inr 13)), some (.inl w), some (.inl u), some (.inl v), some (.inl i)] [] σ1 _
          refine jw_W_n 1 (i' := 29) (ls' := [some (.inr (.inr 13)), some (.inl w), some (.inl u), some (.inl v), some (.inl i)]) (st' := [.inr (.inr 13)]) rfl ?_
          refine jw_W_gf rfl rfl rfl ?_
          show jw_W (js_S n) _ md_155 30 [some (.inr (.inr 13)), some (.inl w), some (.inl u), some (.inl v), some (.inl i)] [.inr (.inr 42)] σ1 _
          refine jw_W_call (as := [.inr (.inr 42)]) (rest := []) rfl rfl rfl rfl (Nat.le_of_ble_eq_true rfl) (.inr rfl) (jq_ask hlw1) (by omega) ?_ rfl
          rintro r1 σ2 ⟨rfl, hc2, h422, hlw2, hw1, hw2⟩
          rename jw_H => σ2
          rw [e51] at hw1 hw2
          rw [jq_do_46 hgr hr1] at hw1 hw2
          have hcc2 := jq_c_tr hcc1 hc2
          have h42b := jq_42_tr h421 h422
          show jw_W (js_S n) _ md_155 31 [some (.inr (.inr 13)), some (.inl w), some (.inl u), some (.inl v), some (.inl i)] [] σ2 _
          refine jw_W_n 1 (i' := 32) (ls' := [some (.inr (.inr 13)), some (.inl w), some (.inl u), some (.inl v), some (.inl i)]) (st' := [.inr (.inr 13)]) rfl ?_
          refine jw_W_gf rfl rfl rfl ?_
          show jw_W (js_S n) _ md_155 33 [some (.inr (.inr 13)), some (.inl w), some (.inl u), some (.inl v), some (.inl i)] [.inr (.inr 42)] σ2 _
          refine jw_W_gf rfl rfl rfl ?_
          show jw_W (js_S n) _ md_155 34 [some (.inr (.inr 13)), some (.inl w), some (.inl u), some (.inl v), some (.inl i)] [.inl (σ2 42 2)] σ2 _
          refine jw_W_if rfl (by unfold jw_rg; omega) (fun hc5 => ?_) (fun hc5 => ?_)
          · have hc5 : (σ2 42 2) ≠ 0 := hc5
            refine jw_W_n 2 (i' := 15) (ls' := [some (.inr (.inr 13)), some (.inl w), some (.inl u), some (.inl v), some (.inl (i + 1))]) (st' := []) rfl ?_
            exact stepn (fun z => by rcases hbt with ⟨h1, h2⟩ | ⟨h1, h2, h3⟩ <;> first | omega | exact absurd z.2.1 (by omega)) (by omega) hcc2 h42b hlw2
          · have hc5 : (σ2 42 2) = 0 := Classical.not_not.mp hc5
            refine jw_W_n 1 (i' := 36) (ls' := [some (.inr (.inr 13)), some (.inl w), some (.inl u), some (.inl v), some (.inl i)]) (st' := [.inl u]) rfl ?_
            refine jw_W_if rfl (by unfold jw_rg; omega) (fun hc6 => ?_) (fun hc6 => ?_)
            · have hc6 : u < 0 := hc6
              refine jw_W_n 3 (i' := 45) (ls' := [some (.inr (.inr 13)), some (.inl w), some (.inl i), some (.inl v), some (.inl i)]) (st' := [.inr (.inr 13)]) rfl ?_
              refine jw_W_gf rfl rfl rfl ?_
              show jw_W (js_S n) _ md_155 46 [some (.inr (.inr 13)), some (.inl w), some (.inl i), some (.inl v), some (.inl i)] [.inr (.inr 42)] σ2 _
              refine jw_W_gf rfl rfl rfl ?_
              show jw_W (js_S n) _ md_155 47 [some (.inr (.inr 13)), some (.inl w), some (.inl i), some (.inl v), some (.inl i)] [.inl (σ2 42 1)] σ2 _
              refine jw_W_n 3 (i' := 15) (ls' := [some (.inr (.inr 13)), some (.inl w), some (.inl i), some (.inl (σ2 42 1)), some (.inl (i + 1))]) (st' := []) rfl ?_
              rw [hw1]
              exact stepy ⟨hg, by omega, by rcases hbt with ⟨h1, h2⟩ | ⟨h1, h2, h3⟩; rw [h2]; show (-100000 : Int) < _; omega; omega⟩ (by omega) hcc2 h42b hlw2
            · have hc6 : ¬ (u < 0) := hc6
              refine jw_W_n 1 (i' := 38) (ls' := [some (.inr (.inr 13)), some (.inl w), some (.inl u), some (.inl v), some (.inl i)]) (st' := [.inr (.inr 13)]) rfl ?_
              refine jw_W_gf rfl rfl rfl ?_
              show jw_W (js_S n) _ md_155 39 [some (.inr (.inr 13)), some (.inl w), some (.inl u), some (.inl v), some (.inl i)] [.inr (.inr 42)] σ2 _
              refine jw_W_gf rfl rfl rfl ?_
              show jw_W (js_S n) _ md_155 40 [some (.inr (.inr 13)), some (.inl w), some (.inl u), some (.inl v), some (.inl i)] [.inl (σ2 42 1)] σ2 _
              refine jw_W_n 1 (i' := 41) (ls' := [some (.inr (.inr 13)), some (.inl w), some (.inl u), some (.inl v), some (.inl i)]) (st' := [.inl v, .inl (σ2 42 1)]) rfl ?_
              refine jw_W_ic rfl (by unfold jw_rg; omega) (by unfold jw_rg; omega) (fun hc7 => ?_) (fun hc7 => ?_)
              · have hc7 : (σ2 42 1) ≤ v := hc7
                refine jw_W_n 2 (i' := 15) (ls' := [some (.inr (.inr 13)), some (.inl w), some (.inl u), some (.inl v), some (.inl (i + 1))]) (st' := []) rfl ?_
                exact stepn (fun z => by rcases hbt with ⟨h1, h2⟩ | ⟨h1, h2, h3⟩ <;> first | omega | exact absurd z.2.1 (by omega)) (by omega) hcc2 h42b hlw2
              · have hc7 : ¬ ((σ2 42 1) ≤ v) := hc7
                refine jw_W_n 3 (i' := 45) (ls' := [some (.inr (.inr 13)), some (.inl w), some (.inl i), some (.inl v), some (.inl i)]) (st' := [.inr (.inr 13)]) rfl ?_
                refine jw_W_gf rfl rfl rfl ?_
                show jw_W (js_S n) _ md_155 46 [some (.inr (.inr 13)), some (.inl w), some (.inl i), some (.inl v), some (.inl i)] [.inr (.inr 42)] σ2 _
                refine jw_W_gf rfl rfl rfl ?_
                show jw_W (js_S n) _ md_155 47 [some (.inr (.inr 13)), some (.inl w), some (.inl i), some (.inl v), some (.inl i)] [.inl (σ2 42 1)] σ2 _
                refine jw_W_n 3 (i' := 15) (ls' := [some (.inr (.inr 13)), some (.inl w), some (.inl i), some (.inl (σ2 42 1)), some (.inl (i + 1))]) (st' := []) rfl ?_
                rw [hw1]
                exact stepy ⟨hg, by omega, by rcases hbt with ⟨h1, h2⟩ | ⟨h1, h2, h3⟩; rw [h2]; show (-100000 : Int) < _; omega; omega⟩ (by omega) hcc2 h42b hlw2
      · rw [hs]
        rw [hgd] at hg
        show jw_W (js_S n) _ md_155 24 [some (.inr (.inr 13)), some (.inl w), some (.inl u), some (.inl v), some (.inl i)] [.inl 0] τ _
        refine jw_W_if rfl (by unfold jw_rg; omega) (fun hc8 => ?_) (fun hc8 => ?_)
        · clear hc8
          refine jw_W_n 2 (i' := 15) (ls' := [some (.inr (.inr 13)), some (.inl w), some (.inl u), some (.inl v), some (.inl (i + 1))]) (st' := []) rfl ?_
          exact stepn (fun z => hg z.1) (by omega) hc h42 hlw
        · exact absurd hc8 (show ¬ ¬ ((0 : Int) = 0) by omega)
theorem jq_lw_x {b : Int → Int} {σ σ' : jw_H} (h : jq_lw b σ) (hf : jx_fx σ σ') : jq_lw b σ' := by
  obtain ⟨⟨h1, h2, h3, h4⟩, h5, h6, h7⟩ := h
  have e : ∀ c, c < 13 ∨ (13 < c ∧ c < 47) → σ' c = σ c := fun c hc => hf.1 c (by omega) (by omega) (.inl (by omega))
  unfold jq_lw jl_cv
  rw [e 42 (by omega), e 45 (by omega), e 46 (by omega)]
  exact ⟨⟨h1, h2, jq_st_fr (e 1 (by omega)) (e 2 (by omega)) h3, h4⟩, h5, h6, h7⟩
theorem jq_ch_x {σ σ' : jw_H} (h : jx_me σ σ') {L : List jl_Q} {k : Nat} : jq_ch σ' L k = jq_ch σ L k := by
  have e : ∀ i, jq_fa σ' i = jq_fa σ i := fun i => funext (fun j => jq_fa_me (fun c h1 _ => h c (by omega)) (by rw [h 103 (by omega)]) (by rw [h 103 (by omega)]) (by rw [h 103 (by omega)]) i j)
  induction k with
  | zero => rfl
  | succ k ih =>
    rw [jq_ch, jq_ch, ih, e]
    unfold jm_good
    rw [h 103 (by omega)]
/-- what a choice leaves of the class -/
def jq_fc (σ σ' : jw_H) : Prop := (∀ c, c < 13 ∨ (13 < c ∧ c < 42) ∨ c = 44 ∨ c = 45 ∨ 102 < c → σ' c = σ c) ∧ (∀ j, j ≠ 16 → σ' 13 j = σ 13 j) ∧ jq_42 σ σ'
theorem jq_fc_rf (σ : jw_H) : jq_fc σ σ := ⟨fun _ _ => rfl, fun _ _ => rfl, fun _ _ _ _ _ _ => rfl⟩
theorem jq_chosen {n : Nat} {σ : jw_H} {o : Nat} {C : List (ge_R × Int)} (hK : jx_K n o C σ) {b : Int → Int} (hlw : jq_lw b σ) (hgr : jq_gL (jq_L b (σ 42 5))) {w : Int} (hwr : jw_rg w)  : jw_T (js_S n) 31 155 [.inr (.inr 13), .inl w] σ (fun r σ' => r = some (.inl (jq_cha σ (jq_L b (σ 42 5)) w)) ∧ jq_fc σ σ' ∧ jq_lw b σ' ∧ jx_K n o C σ') := by
  refine jw_T_of (D := 30) (M := mm_155) rfl (Nat.le_of_ble_eq_true rfl) (ls0 := [some (.inr (.inr 13)), some (.inl w), none, none, none]) rfl ?_ (by rintro _ _ ⟨rfl, -⟩; rfl)
  have hI := hK.1
  obtain ⟨hto, hfo, hp, hP, e0, e1, e2, hPm, hcb, c0, p0, -⟩ := jx_I0_x hI
  have ho := hp.1
  have hq := hP.1
  have hw := hP.2.1
  have hq2 := hP.2.2.1
  have hcn := hcb.1
  have rhwr := hwr
  unfold jw_rg at rhwr
  refine jw_W_n 2 (i' := 2) (ls' := [some (.inr (.inr 13)), some (.inl w), none, none, none]) (st' := [.inl w, .inr (.inr 13)]) rfl ?_
  refine jw_W_call (as := [.inr (.inr 13), .inl w]) (rest := []) rfl rfl rfl rfl (Nat.le_of_ble_eq_true rfl) (.inr rfl) (jx_isPart hK hwr) (by omega) ?_ rfl
  rintro r1 σz (⟨rfl, hs, h01⟩ | ⟨rfl, hs, h01⟩)
  · rw [hs]
    show jw_W (js_S n) _ md_155 3 [some (.inr (.inr 13)), some (.inl w), none, none, none] [.inl 1] σ _
    refine jw_W_if rfl (by unfold jw_rg; omega) (fun hc1 => ?_) (fun hc1 => ?_)
    · clear hc1
      refine jw_W_n 1 (i' := 7) (ls' := [some (.inr (.inr 13)), some (.inl w), none, none, none]) (st' := [.inr (.inr 13)]) rfl ?_
      refine jw_W_gf rfl rfl rfl ?_
      show jw_W (js_S n) _ md_155 8 [some (.inr (.inr 13)), some (.inl w), none, none, none] [.inr (.inr 57)] σ _
      refine jw_W_call (as := [.inr (.inr 57)]) (rest := []) rfl rfl rfl rfl (Nat.le_of_ble_eq_true rfl) (.inr rfl) (jx_judgeK hK) (by omega) ?_ rfl
      rintro r1 σ1 ⟨rfl, hf1, hK1⟩
      rename jw_H => σ1
      have hme1 := jx_fx_me hf1
      have e1031 : σ1 103 = σ 103 := hme1 103 (by omega)
      have e42 : σ1 42 = σ 42 := hf1.1 42 (by omega) (by omega) (by omega)
      have hlw1 : jq_lw b σ1 := jq_lw_x hlw hf1
      have hcn1 := (jx_I0_x hK1.1).2.2.2.2.2.2.2.2.1.1
      show jw_W (js_S n) _ md_155 9 [some (.inr (.inr 13)), some (.inl w), none, none, none] [] σ1 _
      refine jw_W_n 6 (i' := 15) (ls' := [some (.inr (.inr 13)), some (.inl w), some (.inl ((-1))), some (.inl 0), some (.inl 0)]) (st' := []) rfl ?_
      refine jw_W_mono (jq_chc_loop (b := b) hK1 (by rw [e42]; exact hgr) (w := w) h01 (σ1 103 56).toNat (i := 0) (by omega) (by omega) (fun _ _ _ _ => rfl) (fun _ _ _ _ _ _ => rfl) hlw1 (.inl ⟨rfl, rfl⟩) (by omega) (by omega)) ?_
      rintro r σ' ⟨rfl, hc, h42, hlw2⟩
      refine ⟨?_, ⟨fun c d1 => (hc c (by omega) (by omega) (by omega)).trans (hf1.1 c (by omega) (by omega) (by omega)), fun j d1 => by rw [hc 13 (by omega) (by omega) (by omega)]; exact hf1.2.2 j d1, fun j d1 d2 d3 d4 d5 => by rw [h42 j d1 d2 d3 d4 d5, e42]⟩, hlw2, jx_KJ_K (jq_KJ_c hK1 hc)⟩
      · rw [e42, jq_ch_x hme1, e1031]
        unfold jq_cha
        by_cases h0 : w = 0
        · rw [if_pos h0, if_pos h0]
        · rw [if_neg h0, if_neg h0, if_pos (by omega)]
    · exact absurd hc1 (show ¬ ¬ ((1 : Int) ≠ 0) by omega)
  · rw [hs]
    show jw_W (js_S n) _ md_155 3 [some (.inr (.inr 13)), some (.inl w), none, none, none] [.inl 0] σ _
    refine jw_W_if rfl (by unfold jw_rg; omega) (fun hc2 => ?_) (fun hc2 => ?_)
    · exact absurd hc2 (show ¬ ((0 : Int) ≠ 0) by omega)
    · clear hc2
      refine jw_W_ldw (z := (-100001)) rfl rfl ?_
      refine jw_W_ir rfl ?_
      exact ⟨by unfold jq_cha; rw [if_neg (by omega), if_neg (by omega)], jq_fc_rf σ, hlw, hK⟩

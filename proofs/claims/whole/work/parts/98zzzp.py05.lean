/-! ===== problem (class), and both ===== -/
/-- the class's draft read, not good -/
def jk_fcq (p : Nat) (σ σ' : jw_H) : Prop := (∀ c, c ≠ 13 → c ≠ 33 → c ≠ 34 → (c < p ∨ p + 5 < c) → σ' c = σ c) ∧ (∀ j, j ≠ 1 → σ' 13 j = σ 13 j) ∧ σ' 13 1 = 0
/-- the class's draft told -/
def jk_cw (p o : Nat) (σ P σ3 : jw_H) : Prop := (∀ c, c ≠ 13 → c ≠ 33 → c ≠ 34 → (c < p ∨ p + 5 < c) → σ3 c = σ c) ∧ (∀ j, j ≠ 1 → j ≠ 2 → j ≠ 3 → σ3 13 j = σ 13 j) ∧ σ3 13 1 = 0 ∧ σ3 13 2 = (p : Int) ∧ σ3 13 3 = (o : Int) ∧ jk_rl p σ3 P
theorem jk_Pb_of {p : Nat} {σ P : jw_H} (h : jk_rl p σ P) (hP : jk_wf P) : jx_Pb σ p := by
  obtain ⟨g0, g1, g2, g3, g4, g5, g6, g7, g8, g9, g10⟩ := h
  obtain ⟨p1, p2, p3, p4, p5, p6⟩ := hP
  unfold jx_Pb
  rw [g3, g4, g5]
  refine ⟨p1, p2, p3, fun k k0 k1 => ⟨fun j j0 j1 => ?_, ?_, ?_⟩, fun j j0 j1 => ?_, fun w w0 w1 j j0 j1 => ?_⟩
  · rw [g8 _ (by omega) (by omega)]
    exact (p4 k k0 k1).1 j j0 j1
  · rw [(g9 k k0 k1).1]
    exact (p4 k k0 k1).2.1
  · rw [(g9 k k0 k1).2]
    exact (p4 k k0 k1).2.2
  · rw [g10 j j0 j1]
    exact p5 j j0 j1
  · rw [g7 _ (by omega) (by omega)]
    exact p6 w w0 w1 j j0 j1
theorem jk_and255_0 : ∀ v : Fin 256, jw_and (((v.val : Nat) : Int) - 128) 255 = (((v.val : Nat) : Int) - 128) % 256 := by decide +kernel
theorem jk_and255 {x : Int} (h : -128 ≤ x ∧ x ≤ 127) : jw_and x 255 = x % 256 := by
  obtain ⟨k, hk⟩ : ∃ k : Nat, x = (k : Int) - 128 := ⟨(x + 128).toNat, by omega⟩
  rw [hk]
  exact jk_and255_0 ⟨k, by omega⟩
theorem jk_problem {n : Nat} {σ : jw_H} {o p : Nat} (hpo : jx_po n o) (hpp : jx_po n p) (hto : (σ 13 2).toNat = o) (hdp : (σ 13 3).toNat = p) {b : Int → Int} {k : Int} (hk : jw_rg k) (h7 : 0 ≤ σ 13 1 ∧ σ 13 1 ≤ 260) (hst : jk_st σ) (hb : ∀ j, 0 ≤ j → j < σ 13 1 → σ 14 j = b j ∧ 0 ≤ b j ∧ b j ≤ 255)  : jw_T (js_S n) 9 117 [.inr (.inr 13), .inl k] σ (fun r σ' => (¬ (1 ≤ k ∧ k ≤ 200 ∧ k ≤ σ 13 1) ∧ r = some (.inl (-1)) ∧ σ' = σ) ∨ ((1 ≤ k ∧ k ≤ 200 ∧ k ≤ σ 13 1) ∧ jk_ptx b k 0 0 ≠ 0 ∧ r = some (.inl (jk_ptx b k 0 0)) ∧ jk_fcq p σ σ') ∨ ((1 ≤ k ∧ k ≤ 200 ∧ k ≤ σ 13 1) ∧ jk_ptx b k 0 0 = 0 ∧ r = some (.inl (σ' 57 0)) ∧ ∃ σ3, jk_cw p o σ (jk_ptx b k) σ3 ∧ jx_bd1 σ3 p σ')) := by
  refine jw_T_of (D := 8) (M := mm_117) rfl (Nat.le_of_ble_eq_true rfl) (ls0 := [some (.inr (.inr 13)), some (.inl k), none, none]) rfl ?_ (by rintro _ _ (⟨-, rfl, -⟩ | ⟨-, -, rfl, -⟩ | ⟨-, -, rfl, -⟩) <;> rfl)
  have rk := hk
  unfold jw_rg at rk
  have hp0 := hpp.1
  have ho0 := hpo.1
  have hob : (15 ≤ o ∧ o ≤ 27) ∧ (15 ≤ p ∧ p ≤ 27) := by omega
  refine jw_W_n 2 (i' := 2) (ls' := [some (.inr (.inr 13)), some (.inl k), none, none]) (st' := [.inl 1, .inl k]) rfl ?_
  refine jw_W_ic rfl (by unfold jw_rg; omega) (by unfold jw_rg; omega) (fun hc1 => ?_) (fun hc1 => ?_)
  · have hc1 : k < 1 := hc1
    refine jw_W_n 1 (i' := 11) (ls' := [some (.inr (.inr 13)), some (.inl k), none, none]) (st' := [.inl ((-1))]) rfl ?_
    refine jw_W_ir rfl ?_
    exact .inl ⟨by omega, rfl, rfl⟩
  · have hc1 : ¬ (k < 1) := hc1
    refine jw_W_n 2 (i' := 5) (ls' := [some (.inr (.inr 13)), some (.inl k), none, none]) (st' := [.inl 200, .inl k]) rfl ?_
    refine jw_W_ic rfl (by unfold jw_rg; omega) (by unfold jw_rg; omega) (fun hc2 => ?_) (fun hc2 => ?_)
    · have hc2 : k > 200 := hc2
      refine jw_W_n 1 (i' := 11) (ls' := [some (.inr (.inr 13)), some (.inl k), none, none]) (st' := [.inl ((-1))]) rfl ?_
      refine jw_W_ir rfl ?_
      exact .inl ⟨by omega, rfl, rfl⟩
    · have hc2 : ¬ (k > 200) := hc2
      refine jw_W_n 2 (i' := 8) (ls' := [some (.inr (.inr 13)), some (.inl k), none, none]) (st' := [.inr (.inr 13), .inl k]) rfl ?_
      refine jw_W_gf rfl rfl rfl ?_
      show jw_W (js_S n) _ md_117 9 [some (.inr (.inr 13)), some (.inl k), none, none] [.inl (σ 13 1), .inl k] σ _
      refine jw_W_ic rfl (by unfold jw_rg; omega) (by unfold jw_rg; omega) (fun hc3 => ?_) (fun hc3 => ?_)
      · have hc3 : k ≤ (σ 13 1) := hc3
        refine jw_W_n 2 (i' := 14) (ls' := [some (.inr (.inr 13)), some (.inl k), none, none]) (st' := [.inl 0, .inr (.inr 13)]) rfl ?_
        refine jw_W_pf (a := 0) rfl (by omega) rfl rfl rfl rfl rfl ?_
        refine jw_W_n 1 (i' := 16) (ls' := [some (.inr (.inr 13)), some (.inl k), none, none]) (st' := [.inr (.inr 13)]) rfl ?_
        refine jw_W_gf rfl rfl rfl ?_
        show jw_W (js_S n) _ md_117 17 [some (.inr (.inr 13)), some (.inl k), none, none] [.inr (.inr 33)] ((jw_up σ 13 1 0)) _
        refine jw_W_n 1 (i' := 18) (ls' := [some (.inr (.inr 13)), some (.inl k), none, none]) (st' := [.inr (.inr 13), .inr (.inr 33)]) rfl ?_
        refine jw_W_gf rfl rfl rfl ?_
        show jw_W (js_S n) _ md_117 19 [some (.inr (.inr 13)), some (.inl k), none, none] [.inr (.inr 14), .inr (.inr 33)] ((jw_up σ 13 1 0)) _
        refine jw_W_n 2 (i' := 21) (ls' := [some (.inr (.inr 13)), some (.inl k), none, none]) (st' := [.inr (.inr 13), .inl k, .inr (.inr 14), .inr (.inr 33)]) rfl ?_
        refine jw_W_gf rfl rfl rfl ?_
        show jw_W (js_S n) _ md_117 22 [some (.inr (.inr 13)), some (.inl k), none, none] [.inr (.inr ((σ 13 3).toNat)), .inl k, .inr (.inr 14), .inr (.inr 33)] ((jw_up σ 13 1 0)) _
        rw [hdp]
        refine jw_W_call (as := [.inr (.inr 33), .inr (.inr 14), .inl k, .inr (.inr p)]) (rest := []) rfl rfl rfl rfl (Nat.le_of_ble_eq_true rfl) (.inr rfl) (jk_read hpp (b := b) (k := k) (by omega) (jk_st_fr hst (fun c hc => jw_up_out _ _ _ (by omega))) (fun j j0 j1 => by rw [jw_up_out _ _ _ (by omega)]; exact hb j j0 (by omega))) (by omega) ?_ rfl
        rintro r1 σ1 ⟨rfl, hX1, hc1, hrs⟩
        rename jw_H => σ1
        have hr2 := hX1.2.2.2.2.2.2.1
        have e13 : σ1 13 = jw_up σ 13 1 0 13 := hc1 13 (by omega) (by omega) (by omega)
        have hto1 : (σ1 13 2).toNat = o := by rw [e13, jw_up_ne _ (by omega)]; exact hto
        have hdp1 : (σ1 13 3).toNat = p := by rw [e13, jw_up_ne _ (by omega)]; exact hdp
        have hc2 : ∀ c, c ≠ 13 → c ≠ 33 → c ≠ 34 → (c < p ∨ p + 5 < c) → σ1 c = σ c := fun c d1 d2 d3 d4 => (hc1 c d2 d3 d4).trans (jw_up_out _ _ _ d1)
        show jw_W (js_S n) _ md_117 23 [some (.inr (.inr 13)), some (.inl k), none, none] [.inl (σ1 34 2)] σ1 _
        refine jw_W_n 2 (i' := 25) (ls' := [some (.inr (.inr 13)), some (.inl k), some (.inl (σ1 34 2)), none]) (st' := [.inl (σ1 34 2)]) rfl ?_
        refine jw_W_if rfl (by unfold jw_rg; omega) (fun hc4 => ?_) (fun hc4 => ?_)
        · have hc4 : (σ1 34 2) = 0 := hc4
          refine jw_W_n 1 (i' := 29) (ls' := [some (.inr (.inr 13)), some (.inl k), some (.inl (σ1 34 2)), none]) (st' := [.inr (.inr 13)]) rfl ?_
          refine jw_W_gf rfl rfl rfl ?_
          show jw_W (js_S n) _ md_117 30 [some (.inr (.inr 13)), some (.inl k), some (.inl (σ1 34 2)), none] [.inr (.inr ((σ1 13 2).toNat))] σ1 _
          rw [hto1]
          refine jw_W_n 3 (i' := 33) (ls' := [some (.inr (.inr 13)), some (.inl k), some (.inl (σ1 34 2)), some (.inr (.inr o))]) (st' := [.inr (.inr 13), .inr (.inr 13)]) rfl ?_
          refine jw_W_gf rfl rfl rfl ?_
          show jw_W (js_S n) _ md_117 34 [some (.inr (.inr 13)), some (.inl k), some (.inl (σ1 34 2)), some (.inr (.inr o))] [.inr (.inr ((σ1 13 3).toNat)), .inr (.inr 13)] σ1 _
          rw [hdp1]
          refine jw_W_pf (a := p) rfl (by omega) rfl rfl rfl rfl rfl ?_
          refine jw_W_n 2 (i' := 37) (ls' := [some (.inr (.inr 13)), some (.inl k), some (.inl (σ1 34 2)), some (.inr (.inr o))]) (st' := [.inr (.inr o), .inr (.inr 13)]) rfl ?_
          refine jw_W_pf (a := o) rfl (by omega) rfl rfl rfl rfl rfl ?_
          obtain ⟨σ3, hs3⟩ : ∃ τ : jw_H, τ = jw_up (jw_up σ1 13 2 p) 13 3 o := ⟨_, rfl⟩
          show jw_W (js_S n) _ _ _ _ _ (jw_up (jw_up σ1 13 2 p) 13 3 o) _
          rw [← hs3]
          have hz : jk_ptx b k 0 0 = 0 := by rw [← hrs.1]; omega
          have hwf := jk_wf_ptx (b := b) (m := k) (by omega) hz
          have hrl1 := hrs.2 hz
          have c3 : ∀ c, c ≠ 13 → σ3 c = σ1 c := fun c hc => by rw [hs3, jw_up_out _ _ _ hc, jw_up_out _ _ _ hc]
          have hrl3 : jk_rl p σ3 (jk_ptx b k) := by
            unfold jk_rl
            rw [c3 34 (by omega), c3 33 (by omega), c3 p (by omega), c3 (p + 1) (by omega), c3 (p + 2) (by omega), c3 (p + 3) (by omega), c3 (p + 4) (by omega), c3 (p + 5) (by omega)]
            exact hrl1
          have e132 : σ3 13 2 = (p : Int) := by rw [hs3, jw_up_ne _ (by omega), jw_up_eq]
          have hto3 : (σ3 13 2).toNat = p := by rw [e132]; rfl
          have hcw : jk_cw p o σ (jk_ptx b k) σ3 := ⟨fun c d1 d2 d3 d4 => (c3 c d1).trans (hc2 c d1 d2 d3 d4), fun j d1 d2 d3 => by rw [hs3, jw_up_ne _ (by omega), jw_up_ne _ (by omega), e13, jw_up_ne _ (by omega)], by rw [hs3, jw_up_ne _ (by omega), jw_up_ne _ (by omega), e13, jw_up_eq], e132, by rw [hs3, jw_up_eq], hrl3⟩
          have hPb := jk_Pb_of hrl3 hwf
          refine jw_W_n 1 (i' := 39) (ls' := [some (.inr (.inr 13)), some (.inl k), some (.inl (σ1 34 2)), some (.inr (.inr o))]) (st' := [.inr (.inr 13)]) rfl ?_
          refine jw_W_gf rfl rfl rfl ?_
          show jw_W (js_S n) _ md_117 40 [some (.inr (.inr 13)), some (.inl k), some (.inl (σ1 34 2)), some (.inr (.inr o))] [.inr (.inr 57)] σ3 _
          refine jw_W_n 1 (i' := 41) (ls' := [some (.inr (.inr 13)), some (.inl k), some (.inl (σ1 34 2)), some (.inr (.inr o))]) (st' := [.inr (.inr 13), .inr (.inr 57)]) rfl ?_
          refine jw_W_gf rfl rfl rfl ?_
          show jw_W (js_S n) _ md_117 42 [some (.inr (.inr 13)), some (.inl k), some (.inl (σ1 34 2)), some (.inr (.inr o))] [.inr (.inr ((σ3 13 2).toNat)), .inr (.inr 57)] σ3 _
          rw [hto3]
          refine jw_W_call (as := [.inr (.inr 57), .inr (.inr p)]) (rest := []) rfl rfl rfl rfl (Nat.le_of_ble_eq_true rfl) (.inr rfl) (jx_build hpp hPb) (by omega) ?_ rfl
          rintro r1 σ4 ⟨rfl, hbd⟩
          rename jw_H => σ4
          show jw_W (js_S n) _ md_117 43 [some (.inr (.inr 13)), some (.inl k), some (.inl (σ1 34 2)), some (.inr (.inr o))] [] σ4 _
          refine jw_W_n 1 (i' := 44) (ls' := [some (.inr (.inr 13)), some (.inl k), some (.inl (σ1 34 2)), some (.inr (.inr o))]) (st' := [.inr (.inr 13)]) rfl ?_
          refine jw_W_gf rfl rfl rfl ?_
          show jw_W (js_S n) _ md_117 45 [some (.inr (.inr 13)), some (.inl k), some (.inl (σ1 34 2)), some (.inr (.inr o))] [.inr (.inr 57)] σ4 _
          refine jw_W_gf rfl rfl rfl ?_
          show jw_W (js_S n) _ md_117 46 [some (.inr (.inr 13)), some (.inl k), some (.inl (σ1 34 2)), some (.inr (.inr o))] [.inl (σ4 57 0)] σ4 _
          refine jw_W_ir rfl ?_
          exact .inr (.inr ⟨by omega, hz, rfl, σ3, hcw, hbd⟩)
        · have hc4 : ¬ ((σ1 34 2) = 0) := hc4
          refine jw_W_n 1 (i' := 27) (ls' := [some (.inr (.inr 13)), some (.inl k), some (.inl (σ1 34 2)), none]) (st' := [.inl (σ1 34 2)]) rfl ?_
          refine jw_W_ir rfl ?_
          exact .inr (.inl ⟨by omega, by rw [← hrs.1]; assumption, by rw [hrs.1], hc2, fun j hj => by rw [e13, jw_up_ne _ (by omega)], by rw [e13, jw_up_eq]⟩)
      · have hc3 : ¬ (k ≤ (σ 13 1)) := hc3
        refine jw_W_n 1 (i' := 11) (ls' := [some (.inr (.inr 13)), some (.inl k), none, none]) (st' := [.inl ((-1))]) rfl ?_
        refine jw_W_ir rfl ?_
        exact .inl ⟨by omega, rfl, rfl⟩
/-- the two stores hold one problem -/
theorem jk_pq_of {p : Nat} {σ σ3 σ2 P : jw_H} (hc : jk_rl p σ3 P) (h : jk_nw σ P σ2) (hP : jk_wf P) : jx_pq (jx_M σ3 p) σ2 := by
  obtain ⟨-, -, -, ⟨g1, g2, g3⟩, r1, r2, r3⟩ := h
  obtain ⟨k0, k1, k2, k3, k4, k5, k6, k7, k8, k9, k10⟩ := hc
  refine ⟨⟨by rw [jx_M3, k3, g1], by rw [jx_M4, k4, g2], by rw [jx_M5, k5, g3]⟩, fun j j0 j1 => ?_, fun j j0 j1 => ?_, fun j j0 j1 => ?_⟩
  · rw [g2] at j1
    rw [r1 j j0 j1]
    exact k7 j j0 j1
  · rw [g3] at j1
    obtain ⟨q1, q2, q3⟩ := r2 (j / 5) (by omega) (by omega)
    show (if j % 5 < 3 then σ3 (p + 2) (3 * (j / 5) + j % 5) else if j % 5 = 3 then σ3 (p + 3) (j / 5) else σ3 (p + 4) (j / 5)) = σ2 105 j
    by_cases h3 : j % 5 < 3
    · rw [if_pos h3, k8 _ (by omega) (by omega), ← q1 (j % 5) (by omega) h3]
      congr 1
      omega
    · rw [if_neg h3]
      by_cases h4 : j % 5 = 3
      · rw [if_pos h4, (k9 _ (by omega) (by omega)).1, ← q2]
        congr 1
        omega
      · rw [if_neg h4, (k9 _ (by omega) (by omega)).2, ← q3]
        congr 1
        omega
  · rw [r3 j j0 j1]
    exact k10 j j0 j1

/-! ===== the law, the class: law, ask ===== -/
theorem jl_begin14 {n : Nat} {σ : jw_H} {k : Int} (hk : 0 ≤ k ∧ k ≤ 240)  : jw_T (js_S n) 1 105 [.inr (.inr 43), .inr (.inr 14), .inl k] σ (fun r σ' => r = none ∧ σ' 43 3 = 14 ∧ σ' 43 1 = k ∧ σ' 43 0 = 0 ∧ σ' 43 2 = 0 ∧ ∀ c, c ≠ 43 → σ' c = σ c) := by
  refine jw_T_of (D := 0) (M := mm_105) rfl (Nat.le_of_ble_eq_true rfl) (ls0 := [some (.inr (.inr 43)), some (.inr (.inr 14)), some (.inl k)]) rfl ?_ (by rintro _ _ ⟨rfl, -⟩; rfl)
  refine jw_W_n 2 (i' := 2) (ls' := [some (.inr (.inr 43)), some (.inr (.inr 14)), some (.inl k)]) (st' := [.inr (.inr 14), .inr (.inr 43)]) rfl ?_
  refine jw_W_pf (a := 14) rfl (by omega) rfl rfl rfl rfl rfl ?_
  refine jw_W_n 3 (i' := 6) (ls' := [some (.inr (.inr 43)), some (.inr (.inr 14)), some (.inl k)]) (st' := [.inr (.inr 14), .inl k, .inr (.inr 43)]) rfl ?_
  refine jw_W_al rfl rfl ?_
  show jw_W (js_S n) _ md_105 7 [some (.inr (.inr 43)), some (.inr (.inr 14)), some (.inl k)] [.inl 260, .inl k, .inr (.inr 43)] ((jw_up σ 43 3 14)) _
  refine jw_W_min rfl rfl (by unfold jw_rg; omega) (by unfold jw_rg; omega) (Nat.le_of_ble_eq_true rfl) ?_
  rw [if_neg (show ¬ ((260 : Int) < k) by omega)]
  refine jw_W_pf (a := k) rfl (by omega) rfl rfl rfl rfl rfl ?_
  refine jw_W_n 2 (i' := 11) (ls' := [some (.inr (.inr 43)), some (.inr (.inr 14)), some (.inl k)]) (st' := [.inl 0, .inr (.inr 43)]) rfl ?_
  refine jw_W_pf (a := 0) rfl (by omega) rfl rfl rfl rfl rfl ?_
  refine jw_W_n 2 (i' := 14) (ls' := [some (.inr (.inr 43)), some (.inr (.inr 14)), some (.inl k)]) (st' := [.inl 0, .inr (.inr 43)]) rfl ?_
  refine jw_W_pf (a := 0) rfl (by omega) rfl rfl rfl rfl rfl ?_
  refine jw_W_re rfl ?_
  exact ⟨rfl, by rw [jw_up_ne _ (by omega), jw_up_ne _ (by omega), jw_up_ne _ (by omega)]; exact jw_up_eq _ _ _ _, by rw [jw_up_ne _ (by omega), jw_up_ne _ (by omega)]; exact jw_up_eq _ _ _ _, by rw [jw_up_ne _ (by omega)]; exact jw_up_eq _ _ _ _, jw_up_eq _ _ _ _, fun c hc => by rw [jw_up_out _ _ _ hc, jw_up_out _ _ _ hc, jw_up_out _ _ _ hc, jw_up_out _ _ _ hc]⟩
theorem jl_begin45 {n : Nat} {σ : jw_H} {k : Int} (hk : 0 ≤ k ∧ k ≤ 240)  : jw_T (js_S n) 1 105 [.inr (.inr 43), .inr (.inr 45), .inl k] σ (fun r σ' => r = none ∧ σ' 43 3 = 45 ∧ σ' 43 1 = k ∧ σ' 43 0 = 0 ∧ σ' 43 2 = 0 ∧ ∀ c, c ≠ 43 → σ' c = σ c) := by
  refine jw_T_of (D := 0) (M := mm_105) rfl (Nat.le_of_ble_eq_true rfl) (ls0 := [some (.inr (.inr 43)), some (.inr (.inr 45)), some (.inl k)]) rfl ?_ (by rintro _ _ ⟨rfl, -⟩; rfl)
  refine jw_W_n 2 (i' := 2) (ls' := [some (.inr (.inr 43)), some (.inr (.inr 45)), some (.inl k)]) (st' := [.inr (.inr 45), .inr (.inr 43)]) rfl ?_
  refine jw_W_pf (a := 45) rfl (by omega) rfl rfl rfl rfl rfl ?_
  refine jw_W_n 3 (i' := 6) (ls' := [some (.inr (.inr 43)), some (.inr (.inr 45)), some (.inl k)]) (st' := [.inr (.inr 45), .inl k, .inr (.inr 43)]) rfl ?_
  refine jw_W_al rfl rfl ?_
  show jw_W (js_S n) _ md_105 7 [some (.inr (.inr 43)), some (.inr (.inr 45)), some (.inl k)] [.inl 240, .inl k, .inr (.inr 43)] ((jw_up σ 43 3 45)) _
  refine jw_W_min rfl rfl (by unfold jw_rg; omega) (by unfold jw_rg; omega) (Nat.le_of_ble_eq_true rfl) ?_
  rw [if_neg (show ¬ ((240 : Int) < k) by omega)]
  refine jw_W_pf (a := k) rfl (by omega) rfl rfl rfl rfl rfl ?_
  refine jw_W_n 2 (i' := 11) (ls' := [some (.inr (.inr 43)), some (.inr (.inr 45)), some (.inl k)]) (st' := [.inl 0, .inr (.inr 43)]) rfl ?_
  refine jw_W_pf (a := 0) rfl (by omega) rfl rfl rfl rfl rfl ?_
  refine jw_W_n 2 (i' := 14) (ls' := [some (.inr (.inr 43)), some (.inr (.inr 45)), some (.inl k)]) (st' := [.inl 0, .inr (.inr 43)]) rfl ?_
  refine jw_W_pf (a := 0) rfl (by omega) rfl rfl rfl rfl rfl ?_
  refine jw_W_re rfl ?_
  exact ⟨rfl, by rw [jw_up_ne _ (by omega), jw_up_ne _ (by omega), jw_up_ne _ (by omega)]; exact jw_up_eq _ _ _ _, by rw [jw_up_ne _ (by omega), jw_up_ne _ (by omega)]; exact jw_up_eq _ _ _ _, by rw [jw_up_ne _ (by omega)]; exact jw_up_eq _ _ _ _, jw_up_eq _ _ _ _, fun c hc => by rw [jw_up_out _ _ _ hc, jw_up_out _ _ _ hc, jw_up_out _ _ _ hc, jw_up_out _ _ _ hc]⟩
/-- what stands for the law in the class: flags, letters -/
def jl_cv (σ : jw_H) : Prop := (σ 42 9 = 0 ∨ σ 42 9 = 1) ∧ (σ 42 8 = 0 ∨ σ 42 8 = 1) ∧ jl_st σ ∧ ∀ j, 0 ≤ j → j < 7 → jw_rg (σ 46 j)
theorem jl_X_cv {b : Int → Int} {m row : Int} {σ σ1 : jw_H} (hcv : jl_cv σ) (hm : 0 ≤ m ∧ m ≤ 240) (hr : row = 14 ∨ row = 45) (b3 : σ1 43 3 = row) (b1 : σ1 43 1 = m) (b0 : σ1 43 0 = 0) (b2 : σ1 43 2 = 0) (bc : ∀ c, c ≠ 43 → σ1 c = σ c) (hb : ∀ j, 0 ≤ j → j < m → σ row.toNat j = b j ∧ 0 ≤ b j ∧ b j ≤ 255) : jl_X b m (fun j => σ 46 j) σ1 := by
  obtain ⟨h9, h8, hst, he⟩ := hcv
  have hrn : row.toNat ≠ 43 := by omega
  refine ⟨⟨by omega, by omega, by omega, fun j j0 j1 => by rw [b3, bc _ hrn]; exact hb j j0 (by omega)⟩, b1, by omega, by omega, by omega, by rw [bc 42 (by omega)]; exact h9, ?_, fun j j0 j1 => ⟨by rw [bc 46 (by omega)], he j j0 j1⟩⟩
  unfold jl_st jk_sw at hst ⊢
  rw [bc 1 (by omega), bc (1 + 1) (by omega)]
  exact hst
/-- the law as the class leaves it: refused, or told anew -/
def jl_lc (σ : jw_H) (L : Int × Int × List jl_Q) (k : Int) (b : Int → Int) (σ' : jw_H) : Prop := (∀ c, c ≠ 42 → c ≠ 43 → c ≠ 45 → σ' c = σ c) ∧ (∀ j, j = 3 ∨ j = 4 ∨ j = 6 → σ' 42 j = σ 42 j) ∧ (L.1 ≠ 0 → σ' 42 0 = σ 42 0 ∧ σ' 42 5 = σ 42 5 ∧ σ' 45 = σ 45) ∧ (L.1 = 0 → σ' 42 0 = (L.2.2.length : Int) ∧ σ' 42 5 = k ∧ (∀ j, 0 ≤ j → j < k → σ' 45 j = b j) ∧ (L.2.2.length : Int) ≤ 16) ∧ (σ' 42 9 = 0 ∨ σ' 42 9 = 1) ∧ (σ' 42 8 = 0 ∨ σ' 42 8 = 1)
theorem jl_replace {n : Nat} {σ : jw_H} {b : Int → Int} {k : Int} (hk : 0 ≤ k ∧ k ≤ 240) (hcv : jl_cv σ) (hb : ∀ j, 0 ≤ j → j < k → σ 14 j = b j ∧ 0 ≤ b j ∧ b j ≤ 255)  : jw_T (js_S n) 30 43 [.inr (.inr 42), .inr (.inr 14), .inl k] σ (fun r σ' => r = some (.inl (if (jl_law b k).1 = 0 then ((jl_law b k).2.2.length : Int) else (jl_law b k).1)) ∧ jl_lc σ (jl_law b k) k b σ') := by
  refine jw_T_of (D := 29) (M := mm_43) rfl (Nat.le_of_ble_eq_true rfl) (ls0 := [some (.inr (.inr 42)), some (.inr (.inr 14)), some (.inl k), none]) rfl ?_ (by rintro _ _ ⟨rfl, -⟩; rfl)
  refine jw_W_n 2 (i' := 2) (ls' := [some (.inr (.inr 42)), some (.inr (.inr 14)), some (.inl k), none]) (st' := [.inr (.inr 14), .inl k]) rfl ?_
  refine jw_W_al rfl rfl ?_
  show jw_W (js_S n) _ md_43 3 [some (.inr (.inr 42)), some (.inr (.inr 14)), some (.inl k), none] [.inl 260, .inl k] σ _
  refine jw_W_n 1 (i' := 4) (ls' := [some (.inr (.inr 42)), some (.inr (.inr 14)), some (.inl k), none]) (st' := [.inl 240, .inl 260, .inl k]) rfl ?_
  refine jw_W_min rfl rfl (by unfold jw_rg; omega) (by unfold jw_rg; omega) (Nat.le_of_ble_eq_true rfl) ?_
  show jw_W (js_S n) _ md_43 5 [some (.inr (.inr 42)), some (.inr (.inr 14)), some (.inl k), none] [.inl 240, .inl k] σ _
  refine jw_W_min rfl rfl (by unfold jw_rg; omega) (by unfold jw_rg; omega) (Nat.le_of_ble_eq_true rfl) ?_
  rw [if_neg (show ¬ ((240 : Int) < k) by omega)]
  refine jw_W_n 2 (i' := 8) (ls' := [some (.inr (.inr 42)), some (.inr (.inr 14)), some (.inl k), some (.inl k)]) (st' := [.inr (.inr 42)]) rfl ?_
  refine jw_W_gf rfl rfl rfl ?_
  show jw_W (js_S n) _ md_43 9 [some (.inr (.inr 42)), some (.inr (.inr 14)), some (.inl k), some (.inl k)] [.inr (.inr 43)] σ _
  refine jw_W_n 2 (i' := 11) (ls' := [some (.inr (.inr 42)), some (.inr (.inr 14)), some (.inl k), some (.inl k)]) (st' := [.inl k, .inr (.inr 14), .inr (.inr 43)]) rfl ?_
  refine jw_W_call (as := [.inr (.inr 43), .inr (.inr 14), .inl k]) (rest := []) rfl rfl rfl rfl (Nat.le_of_ble_eq_true rfl) (.inr rfl) (jl_begin14 hk) (by omega) ?_ rfl
  rintro r1 σ1 ⟨rfl, b3, b1, b0, b2, bc⟩
  rename jw_H => σ1
  have hX1 := jl_X_cv (b := b) hcv hk (.inl rfl) b3 b1 b0 b2 bc hb
  show jw_W (js_S n) _ md_43 12 [some (.inr (.inr 42)), some (.inr (.inr 14)), some (.inl k), some (.inl k)] [] σ1 _
  refine jw_W_n 1 (i' := 13) (ls' := [some (.inr (.inr 42)), some (.inr (.inr 14)), some (.inl k), some (.inl k)]) (st' := [.inr (.inr 42)]) rfl ?_
  refine jw_W_call (as := [.inr (.inr 42)]) (rest := []) rfl rfl rfl rfl (Nat.le_of_ble_eq_true rfl) (.inr rfl) (jl_readRules hX1 (by omega) b2 b0 (by rw [bc 42 (by omega)]; exact hcv.2.1)) (by omega) ?_ rfl
  rintro r1 σ2 ⟨rfl, hX2, hF2, hat, h28⟩
  rename jw_H => σ2
  have r2 := hX2.2.2.2.2.1
  have c2 : ∀ c, c ≠ 42 → c ≠ 43 → σ2 c = σ c := fun c d1 d2 => (hF2.1 c d1 d2).trans (bc c d2)
  have j2 : ∀ j, j ≠ 1 → j ≠ 2 → j ≠ 7 → j ≠ 8 → j ≠ 9 → σ2 42 j = σ 42 j := fun j d1 d2 d3 d4 d5 => (hF2.2 j d1 d2 d3 d4 d5).trans (congrFun (bc 42 (by omega)) j)
  have h29 := hX2.2.2.2.2.2.1
  have hat1 := hat.1
  show jw_W (js_S n) _ md_43 14 [some (.inr (.inr 42)), some (.inr (.inr 14)), some (.inl k), some (.inl k)] [] σ2 _
  refine jw_W_n 1 (i' := 15) (ls' := [some (.inr (.inr 42)), some (.inr (.inr 14)), some (.inl k), some (.inl k)]) (st' := [.inr (.inr 42)]) rfl ?_
  refine jw_W_gf rfl rfl rfl ?_
  show jw_W (js_S n) _ md_43 16 [some (.inr (.inr 42)), some (.inr (.inr 14)), some (.inl k), some (.inl k)] [.inr (.inr 43)] σ2 _
  refine jw_W_gf rfl rfl rfl ?_
  show jw_W (js_S n) _ md_43 17 [some (.inr (.inr 42)), some (.inr (.inr 14)), some (.inl k), some (.inl k)] [.inl (σ2 43 2)] σ2 _
  refine jw_W_if rfl (by unfold jw_rg; omega) (fun hc1 => ?_) (fun hc1 => ?_)
  · have hc1 : (σ2 43 2) = 0 := hc1
    refine jw_W_n 3 (i' := 25) (ls' := [some (.inr (.inr 42)), some (.inr (.inr 14)), some (.inl k), some (.inl k)]) (st' := [.inr (.inr 42), .inl 0, .inr (.inr 14)]) rfl ?_
    refine jw_W_gf rfl rfl rfl ?_
    show jw_W (js_S n) _ md_43 26 [some (.inr (.inr 42)), some (.inr (.inr 14)), some (.inl k), some (.inl k)] [.inr (.inr 45), .inl 0, .inr (.inr 14)] σ2 _
    refine jw_W_n 2 (i' := 28) (ls' := [some (.inr (.inr 42)), some (.inr (.inr 14)), some (.inl k), some (.inl k)]) (st' := [.inl k, .inl 0, .inr (.inr 45), .inl 0, .inr (.inr 14)]) rfl ?_
    refine jw_W_cp rfl rfl (by omega) rfl rfl (by omega) (by omega) (by omega) (by omega) (by omega) (by omega) (by omega) (Nat.le_of_ble_eq_true rfl) ?_
    obtain ⟨σ3, hs3⟩ : ∃ s : jw_H, s = jw_cp σ2 14 0 45 0 k := ⟨_, rfl⟩
    show jw_W (js_S n) _ _ _ _ _ (jw_cp σ2 14 0 45 0 k) _
    rw [← hs3]
    have c3 : ∀ c, c ≠ 45 → σ3 c = σ2 c := fun c hc => by rw [hs3]; funext j; unfold jw_cp; rw [if_neg (fun w => hc w.1)]
    have r3 : ∀ j, 0 ≤ j → j < k → σ3 45 j = σ2 14 j := fun j j0 j1 => by rw [hs3]; unfold jw_cp; rw [if_pos ⟨rfl, by omega, by omega⟩]; congr 1; omega
    refine jw_W_n 2 (i' := 31) (ls' := [some (.inr (.inr 42)), some (.inr (.inr 14)), some (.inl k), some (.inl k)]) (st' := [.inl k, .inr (.inr 42)]) rfl ?_
    refine jw_W_pf (a := k) rfl (by omega) rfl rfl rfl rfl rfl ?_
    refine jw_W_n 2 (i' := 34) (ls' := [some (.inr (.inr 42)), some (.inr (.inr 14)), some (.inl k), some (.inl k)]) (st' := [.inr (.inr 42), .inr (.inr 42)]) rfl ?_
    refine jw_W_gf rfl rfl rfl ?_
    show jw_W (js_S n) _ md_43 35 [some (.inr (.inr 42)), some (.inr (.inr 14)), some (.inl k), some (.inl k)] [.inl (σ3 42 7), .inr (.inr 42)] ((jw_up σ3 42 5 k)) _
    refine jw_W_pf (a := σ3 42 7) rfl (by omega) rfl rfl rfl rfl rfl ?_
    refine jw_W_n 1 (i' := 37) (ls' := [some (.inr (.inr 42)), some (.inr (.inr 14)), some (.inl k), some (.inl k)]) (st' := [.inr (.inr 42)]) rfl ?_
    refine jw_W_gf rfl rfl rfl ?_
    show jw_W (js_S n) _ md_43 38 [some (.inr (.inr 42)), some (.inr (.inr 14)), some (.inl k), some (.inl k)] [.inl (σ3 42 7)] ((jw_up (jw_up σ3 42 5 k) 42 0 (σ3 42 7))) _
    refine jw_W_ir rfl ?_
    have hq : (jl_law b k).1 = 0 := by rw [← hat1]; assumption
    obtain ⟨a1, a2, a3, a4⟩ := hat.2 hq
    obtain ⟨σ4, hs4⟩ : ∃ τ : jw_H, τ = jw_up (jw_up σ3 42 5 k) 42 0 (σ3 42 7) := ⟨_, rfl⟩
    show _ ∧ jl_lc σ _ k b (jw_up (jw_up σ3 42 5 k) 42 0 (σ3 42 7))
    rw [← hs4]
    have c4 : ∀ c, c ≠ 42 → σ4 c = σ3 c := fun c hc => by rw [hs4, jw_up_out _ _ _ hc, jw_up_out _ _ _ hc]
    have j4 : ∀ j, j ≠ 0 → j ≠ 5 → σ4 42 j = σ2 42 j := fun j d1 d2 => by rw [hs4, jw_up_ne _ (by omega), jw_up_ne _ (by omega), c3 42 (by omega)]
    have e37 : σ3 42 7 = σ2 42 7 := by rw [c3 42 (by omega)]
    refine ⟨by rw [if_pos hq, ← a2]; exact congrArg (fun v => some (Sum.inl v)) e37, fun c d1 d2 d3 => (c4 c d1).trans ((c3 c d3).trans (c2 c d1 d2)), fun j hj => (j4 j (by omega) (by omega)).trans (j2 j (by omega) (by omega) (by omega) (by omega) (by omega)), fun hn => absurd hq hn, fun _ => ⟨?_, ?_, fun j j0 j1 => ?_, a3⟩, by rw [j4 9 (by omega) (by omega)]; exact h29, by rw [j4 8 (by omega) (by omega)]; exact h28⟩
    · rw [hs4]
      refine (jw_up_eq _ _ _ _).trans ?_
      rw [← a2]
      exact e37
    · rw [hs4, jw_up_ne _ (by omega)]
      exact jw_up_eq _ _ _ _
    · rw [c4 45 (by omega), r3 j j0 j1, c2 14 (by omega) (by omega)]
      exact (hb j j0 j1).1
  · have hc1 : ¬ ((σ2 43 2) = 0) := hc1
    refine jw_W_n 1 (i' := 19) (ls' := [some (.inr (.inr 42)), some (.inr (.inr 14)), some (.inl k), some (.inl k)]) (st' := [.inr (.inr 42)]) rfl ?_
    refine jw_W_gf rfl rfl rfl ?_
    show jw_W (js_S n) _ md_43 20 [some (.inr (.inr 42)), some (.inr (.inr 14)), some (.inl k), some (.inl k)] [.inr (.inr 43)] σ2 _
    refine jw_W_gf rfl rfl rfl ?_
    show jw_W (js_S n) _ md_43 21 [some (.inr (.inr 42)), some (.inr (.inr 14)), some (.inl k), some (.inl k)] [.inl (σ2 43 2)] σ2 _
    refine jw_W_ir rfl ?_
    refine ⟨by rw [if_neg (by rw [← hat1]; assumption), hat1], fun c d1 d2 _ => c2 c d1 d2, fun j hj => j2 j (by omega) (by omega) (by omega) (by omega) (by omega), fun _ => ⟨j2 0 (by omega) (by omega) (by omega) (by omega) (by omega), j2 5 (by omega) (by omega) (by omega) (by omega) (by omega), c2 45 (by omega) (by omega)⟩, fun hq => absurd (hat1.trans hq) (by assumption), h29, h28⟩
theorem jl_lawc {n : Nat} {σ : jw_H} {b : Int → Int} {k : Int} (hk : jw_rg k) (h7 : 0 ≤ σ 13 1 ∧ σ 13 1 ≤ 260) (hcv : jl_cv σ) (hb : ∀ j, 0 ≤ j → j < σ 13 1 → σ 14 j = b j ∧ 0 ≤ b j ∧ b j ≤ 255)  : jw_T (js_S n) 31 116 [.inr (.inr 13), .inl k] σ (fun r σ' => (¬ (1 ≤ k ∧ k ≤ 240 ∧ k ≤ σ 13 1) ∧ r = some (.inl (-1)) ∧ σ' = σ) ∨ ((1 ≤ k ∧ k ≤ 240 ∧ k ≤ σ 13 1) ∧ r = some (.inl (if (jl_law b k).1 = 0 then ((jl_law b k).2.2.length : Int) else (jl_law b k).1)) ∧ jl_lc (jw_up σ 13 1 0) (jl_law b k) k b σ')) := by
  refine jw_T_of (D := 30) (M := mm_116) rfl (Nat.le_of_ble_eq_true rfl) (ls0 := [some (.inr (.inr 13)), some (.inl k)]) rfl ?_ (by rintro _ _ (⟨-, rfl, -⟩ | ⟨-, rfl, -⟩) <;> rfl)
  have rk := hk
  unfold jw_rg at rk
  have hcv1 : jl_cv (jw_up σ 13 1 0) := by
    obtain ⟨h9, h8, hst, he⟩ := hcv
    refine ⟨by rw [jw_up_out _ _ _ (by omega)]; exact h9, by rw [jw_up_out _ _ _ (by omega)]; exact h8, ?_, fun j j0 j1 => by rw [jw_up_out _ _ _ (by omega)]; exact he j j0 j1⟩
    unfold jl_st jk_sw at hst ⊢
    rw [jw_up_out _ _ _ (by omega), jw_up_out _ _ _ (by omega)]
    exact hst
  refine jw_W_n 2 (i' := 2) (ls' := [some (.inr (.inr 13)), some (.inl k)]) (st' := [.inl 1, .inl k]) rfl ?_
  refine jw_W_ic rfl (by unfold jw_rg; omega) (by unfold jw_rg; omega) (fun hc1 => ?_) (fun hc1 => ?_)
  · have hc1 : k < 1 := hc1
    refine jw_W_n 1 (i' := 11) (ls' := [some (.inr (.inr 13)), some (.inl k)]) (st' := [.inl ((-1))]) rfl ?_
    refine jw_W_ir rfl ?_
    exact .inl ⟨by omega, rfl, rfl⟩
  · have hc1 : ¬ (k < 1) := hc1
    refine jw_W_n 2 (i' := 5) (ls' := [some (.inr (.inr 13)), some (.inl k)]) (st' := [.inl 240, .inl k]) rfl ?_
    refine jw_W_ic rfl (by unfold jw_rg; omega) (by unfold jw_rg; omega) (fun hc2 => ?_) (fun hc2 => ?_)
    · have hc2 : k > 240 := hc2
      refine jw_W_n 1 (i' := 11) (ls' := [some (.inr (.inr 13)), some (.inl k)]) (st' := [.inl ((-1))]) rfl ?_
      refine jw_W_ir rfl ?_
      exact .inl ⟨by omega, rfl, rfl⟩
    · have hc2 : ¬ (k > 240) := hc2
      refine jw_W_n 2 (i' := 8) (ls' := [some (.inr (.inr 13)), some (.inl k)]) (st' := [.inr (.inr 13), .inl k]) rfl ?_
      refine jw_W_gf rfl rfl rfl ?_
      show jw_W (js_S n) _ md_116 9 [some (.inr (.inr 13)), some (.inl k)] [.inl (σ 13 1), .inl k] σ _
      refine jw_W_ic rfl (by unfold jw_rg; omega) (by unfold jw_rg; omega) (fun hc3 => ?_) (fun hc3 => ?_)
      · have hc3 : k ≤ (σ 13 1) := hc3
        refine jw_W_n 2 (i' := 14) (ls' := [some (.inr (.inr 13)), some (.inl k)]) (st' := [.inl 0, .inr (.inr 13)]) rfl ?_
        refine jw_W_pf (a := 0) rfl (by omega) rfl rfl rfl rfl rfl ?_
        refine jw_W_n 1 (i' := 16) (ls' := [some (.inr (.inr 13)), some (.inl k)]) (st' := [.inr (.inr 13)]) rfl ?_
        refine jw_W_gf rfl rfl rfl ?_
        show jw_W (js_S n) _ md_116 17 [some (.inr (.inr 13)), some (.inl k)] [.inr (.inr 42)] ((jw_up σ 13 1 0)) _
        refine jw_W_n 1 (i' := 18) (ls' := [some (.inr (.inr 13)), some (.inl k)]) (st' := [.inr (.inr 13), .inr (.inr 42)]) rfl ?_
        refine jw_W_gf rfl rfl rfl ?_
        show jw_W (js_S n) _ md_116 19 [some (.inr (.inr 13)), some (.inl k)] [.inr (.inr 14), .inr (.inr 42)] ((jw_up σ 13 1 0)) _
        refine jw_W_n 1 (i' := 20) (ls' := [some (.inr (.inr 13)), some (.inl k)]) (st' := [.inl k, .inr (.inr 14), .inr (.inr 42)]) rfl ?_
        refine jw_W_call (as := [.inr (.inr 42), .inr (.inr 14), .inl k]) (rest := []) rfl rfl rfl rfl (Nat.le_of_ble_eq_true rfl) (.inr rfl) (jl_replace (b := b) (k := k) (by omega) hcv1 (fun j j0 j1 => by rw [jw_up_out _ _ _ (by omega)]; exact hb j j0 (by omega))) (by omega) ?_ rfl
        rintro r1 σ1 ⟨rfl, hlc⟩
        rename jw_H => σ1
        show jw_W (js_S n) _ md_116 21 [some (.inr (.inr 13)), some (.inl k)] [.inl (if (jl_law b k).1 = 0 then ((jl_law b k).2.2.length : Int) else (jl_law b k).1)] σ1 _
        refine jw_W_ir rfl ?_
        exact .inr ⟨by omega, rfl, hlc⟩
      · have hc3 : ¬ (k ≤ (σ 13 1)) := hc3
        refine jw_W_n 1 (i' := 11) (ls' := [some (.inr (.inr 13)), some (.inl k)]) (st' := [.inl ((-1))]) rfl ?_
        refine jw_W_ir rfl ?_
        exact .inl ⟨by omega, rfl, rfl⟩
theorem jl_ask {n : Nat} {σ : jw_H} {b : Int → Int} (hcv : jl_cv σ) (h5 : 0 ≤ σ 42 5 ∧ σ 42 5 ≤ 240) (hb : ∀ j, 0 ≤ j → j < σ 42 5 → σ 45 j = b j ∧ 0 ≤ b j ∧ b j ≤ 255) (hL : 0 < σ 42 5 → (jl_law b (σ 42 5)).1 = 0)  : jw_T (js_S n) 30 45 [.inr (.inr 42)] σ (fun r σ' => r = none ∧ (∀ c, c ≠ 42 → c ≠ 43 → σ' c = σ c) ∧ (∀ j, j ≠ 1 → j ≠ 2 → j ≠ 7 → j ≠ 8 → j ≠ 9 → σ' 42 j = σ 42 j) ∧ (σ' 42 9 = 0 ∨ σ' 42 9 = 1) ∧ (σ' 42 8 = 0 ∨ σ' 42 8 = 1) ∧ σ' 42 1 = (if 0 < σ 42 5 then (jl_do (fun j => σ 46 j) (jl_law b (σ 42 5)).2.2 (0, 0, 0)).1 else 0) ∧ σ' 42 2 = (if 0 < σ 42 5 then (jl_do (fun j => σ 46 j) (jl_law b (σ 42 5)).2.2 (0, 0, 0)).2.1 else 0)) := by
  refine jw_T_of (D := 29) (M := mm_45) rfl (Nat.le_of_ble_eq_true rfl) (ls0 := [some (.inr (.inr 42))]) rfl ?_ (by rintro _ _ ⟨rfl, -⟩; rfl)
  refine jw_W_n 2 (i' := 2) (ls' := [some (.inr (.inr 42))]) (st' := [.inl 0, .inr (.inr 42)]) rfl ?_
  refine jw_W_pf (a := 0) rfl (by omega) rfl rfl rfl rfl rfl ?_
  refine jw_W_n 2 (i' := 5) (ls' := [some (.inr (.inr 42))]) (st' := [.inl 0, .inr (.inr 42)]) rfl ?_
  refine jw_W_pf (a := 0) rfl (by omega) rfl rfl rfl rfl rfl ?_
  refine jw_W_n 2 (i' := 8) (ls' := [some (.inr (.inr 42))]) (st' := [.inl 0, .inr (.inr 42)]) rfl ?_
  refine jw_W_pf (a := 0) rfl (by omega) rfl rfl rfl rfl rfl ?_
  obtain ⟨σ1, hs1⟩ : ∃ s : jw_H, s = jw_up (jw_up (jw_up σ 42 1 0) 42 2 0) 42 8 0 := ⟨_, rfl⟩
  show jw_W (js_S n) _ _ _ _ _ (jw_up (jw_up (jw_up σ 42 1 0) 42 2 0) 42 8 0) _
  rw [← hs1]
  have c1 : ∀ c, c ≠ 42 → σ1 c = σ c := fun c hc => by rw [hs1, jw_up_out _ _ _ hc, jw_up_out _ _ _ hc, jw_up_out _ _ _ hc]
  have j1 : ∀ j, j ≠ 1 → j ≠ 2 → j ≠ 8 → σ1 42 j = σ 42 j := fun j d1 d2 d3 => by rw [hs1, jw_up_ne _ (by omega), jw_up_ne _ (by omega), jw_up_ne _ (by omega)]
  have e11 : σ1 42 1 = 0 := by rw [hs1, jw_up_ne _ (by omega), jw_up_ne _ (by omega)]; exact jw_up_eq _ _ _ _
  have e12 : σ1 42 2 = 0 := by rw [hs1, jw_up_ne _ (by omega)]; exact jw_up_eq _ _ _ _
  have e18 : σ1 42 8 = 0 := by rw [hs1]; exact jw_up_eq _ _ _ _
  have e15 : σ1 42 5 = σ 42 5 := j1 5 (by omega) (by omega) (by omega)
  have hcv1 : jl_cv σ1 := by
    obtain ⟨h9, h8, hst, he⟩ := hcv
    refine ⟨by rw [j1 9 (by omega) (by omega) (by omega)]; exact h9, .inl e18, ?_, fun j j0 j1 => by rw [c1 46 (by omega)]; exact he j j0 j1⟩
    unfold jl_st jk_sw at hst ⊢
    rw [c1 1 (by omega), c1 (1 + 1) (by omega)]
    exact hst
  refine jw_W_n 1 (i' := 10) (ls' := [some (.inr (.inr 42))]) (st' := [.inr (.inr 42)]) rfl ?_
  refine jw_W_gf rfl rfl rfl ?_
  show jw_W (js_S n) _ md_45 11 [some (.inr (.inr 42))] [.inl (σ1 42 5)] σ1 _
  refine jw_W_if rfl (by unfold jw_rg; omega) (fun hc1 => ?_) (fun hc1 => ?_)
  · have hc1 : (σ1 42 5) ≤ 0 := hc1
    refine jw_W_re rfl ?_
    refine ⟨rfl, fun c d1 _ => c1 c d1, fun j d1 d2 _ d4 _ => j1 j d1 d2 d4, hcv1.1, .inl e18, ?_, ?_⟩
    · rw [if_neg (by omega)]
      exact e11
    · rw [if_neg (by omega)]
      exact e12
  · have hc1 : ¬ ((σ1 42 5) ≤ 0) := hc1
    refine jw_W_n 1 (i' := 13) (ls' := [some (.inr (.inr 42))]) (st' := [.inr (.inr 42)]) rfl ?_
    refine jw_W_gf rfl rfl rfl ?_
    show jw_W (js_S n) _ md_45 14 [some (.inr (.inr 42))] [.inr (.inr 43)] σ1 _
    refine jw_W_n 1 (i' := 15) (ls' := [some (.inr (.inr 42))]) (st' := [.inr (.inr 42), .inr (.inr 43)]) rfl ?_
    refine jw_W_gf rfl rfl rfl ?_
    show jw_W (js_S n) _ md_45 16 [some (.inr (.inr 42))] [.inr (.inr 45), .inr (.inr 43)] σ1 _
    refine jw_W_n 1 (i' := 17) (ls' := [some (.inr (.inr 42))]) (st' := [.inr (.inr 42), .inr (.inr 45), .inr (.inr 43)]) rfl ?_
    refine jw_W_gf rfl rfl rfl ?_
    show jw_W (js_S n) _ md_45 18 [some (.inr (.inr 42))] [.inl (σ1 42 5), .inr (.inr 45), .inr (.inr 43)] σ1 _
    refine jw_W_call (as := [.inr (.inr 43), .inr (.inr 45), .inl (σ1 42 5)]) (rest := []) rfl rfl rfl rfl (Nat.le_of_ble_eq_true rfl) (.inr rfl) (jl_begin45 (k := σ1 42 5) (by omega)) (by omega) ?_ rfl
    rintro r1 σ2 ⟨rfl, b3, b1, b0, b2, bc⟩
    rename jw_H => σ2
    have hX2 := jl_X_cv (b := b) hcv1 (by omega) (.inr rfl) b3 b1 b0 b2 bc (fun j j0 j1 => by rw [show (45 : Int).toNat = 45 from rfl, c1 45 (by omega)]; exact hb j j0 (by omega))
    show jw_W (js_S n) _ md_45 19 [some (.inr (.inr 42))] [] σ2 _
    refine jw_W_n 1 (i' := 20) (ls' := [some (.inr (.inr 42))]) (st' := [.inr (.inr 42)]) rfl ?_
    refine jw_W_call (as := [.inr (.inr 42)]) (rest := []) rfl rfl rfl rfl (Nat.le_of_ble_eq_true rfl) (.inr rfl) (jl_readRules hX2 (by omega) b2 b0 (.inl (by rw [bc 42 (by omega)]; exact e18))) (by omega) ?_ rfl
    rintro r1 σ3 ⟨rfl, hX3, hF3, hat, h38⟩
    rename jw_H => σ3
    show jw_W (js_S n) _ md_45 21 [some (.inr (.inr 42))] [] σ3 _
    refine jw_W_re rfl ?_
    refine ⟨rfl, fun c d1 d2 => (hF3.1 c d1 d2).trans ((bc c d2).trans (c1 c d1)), fun j d1 d2 d3 d4 d5 => (hF3.2 j d1 d2 d3 d4 d5).trans ((congrFun (bc 42 (by omega)) j).trans (j1 j d1 d2 d4)), hX3.2.2.2.2.2.1, h38, ?_⟩
    rw [if_pos (by omega), if_pos (by omega)]
    rw [e15] at hat
    obtain ⟨a1, a2, a3, a4⟩ := hat.2 (hL (by omega))
    rw [bc 42 (by omega), e11, e12, e18, show (fun j => σ1 46 j) = (fun j => σ 46 j) by rw [c1 46 (by omega)]] at a4
    exact ⟨congrArg (fun w : Int × Int × Int => w.1) a4, congrArg (fun w : Int × Int × Int => w.2.1) a4⟩

/-! ===== a sum by weights; the reference's best ===== -/
/-- the wishes' sum by weights -/
def jm_gk (σ : jw_H) (w : Int → Int) : Nat → ge_D
  | 0 => (0, 0, 0)
  | k + 1 => ((jm_gk σ w k).1 + w k * σ 104 (3 * k), (jm_gk σ w k).2.1 + w k * σ 104 (3 * k + 1), (jm_gk σ w k).2.2 + w k * σ 104 (3 * k + 2))
def jm_wgt (a b c k : Int) : Int := if k = 0 then a else if k = 1 then b else c
def jm_wok (a b c : Int) : Prop := (0 ≤ a ∧ a ≤ 9) ∧ (0 ≤ b ∧ b ≤ 9) ∧ (0 ≤ c ∧ c ≤ 9)
/-- the sum that is told -/
def jm_gd3 (σ : jw_H) (a b c : Int) : ge_D := jm_gk σ (jm_wgt a b c) (σ 103 4).toNat
theorem jm_gk_cg {σ σ' : jw_H} {w w' : Int → Int} (h : σ' 104 = σ 104) : ∀ {m : Nat}, (∀ k : Int, 0 ≤ k → k < m → w' k = w k) → jm_gk σ' w' m = jm_gk σ w m
  | 0, _ => rfl
  | m + 1, hw => by
    unfold jm_gk
    rw [jm_gk_cg h (m := m) (fun k k0 k1 => hw k k0 (by omega)), hw m (by omega) (by omega), h]
theorem jx_m27 {x y : Int} (hx : 0 ≤ x ∧ x ≤ 9) (hy : -3 ≤ y ∧ y ≤ 3) : -27 ≤ x * y ∧ x * y ≤ 27 := by
  have h1 := Int.mul_le_mul_of_nonneg_left hy.1 hx.1
  have h2 := Int.mul_le_mul_of_nonneg_left hy.2 hx.1
  omega
theorem jm_gk_bd {σ : jw_H} {w : Int → Int} (hP : jm_Pb σ) : ∀ {m : Nat}, (m : Int) ≤ σ 103 4 → (∀ k : Int, 0 ≤ k → k < m → 0 ≤ w k ∧ w k ≤ 9) → (-(27 * m) ≤ (jm_gk σ w m).1 ∧ (jm_gk σ w m).1 ≤ 27 * m) ∧ (-(27 * m) ≤ (jm_gk σ w m).2.1 ∧ (jm_gk σ w m).2.1 ≤ 27 * m) ∧ (-(27 * m) ≤ (jm_gk σ w m).2.2 ∧ (jm_gk σ w m).2.2 ≤ 27 * m)
  | 0, _, _ => by
    unfold jm_gk
    dsimp only
    omega
  | m + 1, hm, hw => by
    have ih := jm_gk_bd hP (m := m) (by omega) (fun k k0 k1 => hw k k0 (by omega))
    have hwm := hw m (by omega) (by omega)
    have hW := jm_W_sm hP (k := (m : Int)) (by omega) (by omega)
    unfold jm_W at hW
    have a1 := jx_m27 hwm hW.1
    have a2 := jx_m27 hwm hW.2.1
    have a3 := jx_m27 hwm hW.2.2
    unfold jm_gk
    dsimp only at *
    omega
theorem jm_gk_Gb {σ : jw_H} {w : Int → Int} (hP : jm_Pb σ) (hw : ∀ k : Int, 0 ≤ k → k < σ 103 4 → 0 ≤ w k ∧ w k ≤ 9) : jx_Gb (jm_gk σ w (σ 103 4).toNat) := by
  have h4 := hP.2.1
  have h := jm_gk_bd hP (w := w) (m := (σ 103 4).toNat) (by omega) (fun k k0 k1 => hw k k0 (by omega))
  unfold jx_Gb
  omega
theorem jm_wgt_ok {a b c k : Int} (h : jm_wok a b c) : 0 ≤ jm_wgt a b c k ∧ jm_wgt a b c k ≤ 9 := by
  unfold jm_wok at h
  unfold jm_wgt
  split
  · omega
  · split <;> omega
theorem jm_gd3_Gb {σ : jw_H} {a b c : Int} (hP : jm_Pb σ) (h : jm_wok a b c) : jx_Gb (jm_gd3 σ a b c) := jm_gk_Gb hP (fun _ _ _ => jm_wgt_ok h)
theorem jm_gd3_me {σ0 σ : jw_H} (h : jx_me σ0 σ) (a b c : Int) : jm_gd3 σ a b c = jm_gd3 σ0 a b c := by
  unfold jm_gd3
  rw [jm_gk_cg (h 104 (by omega)) (fun _ _ _ => rfl), h 103 (by omega)]
theorem jx_fst_cg {d : ge_D} {P P' : Int → ge_R} {m b : Int} (hP : ∀ i, 0 ≤ i → i < m → P i = P' i) (h : jx_fst d P m b) : jx_fst d P' m b := by
  rcases h with h | ⟨h1, h2⟩
  · exact .inl h
  · refine .inr ⟨h1, fun i i0 i1 => ?_⟩
    rw [← hP i i0 i1, ← hP b h1.1 h1.2]
    exact h2 i i0 i1
theorem jx_fst_1 (d : ge_D) (P : Int → ge_R) : jx_fst d P 1 0 := .inr ⟨by omega, fun i i0 i1 => by
  have : i = 0 := by omega
  rw [this]
  unfold jx_wl
  omega⟩
theorem jx_fst_in {d : ge_D} {P : Int → ge_R} {m b : Int} (hm : 0 < m) (h : jx_fst d P m b) : 0 ≤ b ∧ b < m := by
  rcases h with h | h
  · omega
  · exact h.1
/-- the reference's weights -/
def jm_w142 (σ σ' : jw_H) (a b c : Int) : Prop := (∀ o, o ≠ 142 → σ' o = σ o) ∧ σ' 142 0 = a ∧ σ' 142 1 = b ∧ σ' 142 2 = c
theorem jm_w142_z {σ σ' : jw_H} {C : List (ge_R × Int)} {a b c : Int} (hKN : jm_KN σ C) (h : jm_w142 σ σ' a b c) : jm_fz σ σ' := by
  refine ⟨fun o h1 h2 => h.1 o (by omega), fun j hj => by rw [h.1 103 (by omega)], ?_⟩
  unfold jm_Ns
  rw [h.1 131 (by omega)]
  exact hKN.1.2.2.2.2.1
theorem jm_w142_k {σ σ' : jw_H} {a b c : Int} (h : jm_w142 σ σ' a b c) {k : Int} (k0 : 0 ≤ k) (k1 : k < 3) : σ' 142 k = jm_wgt a b c k := by
  obtain ⟨-, h0, h1, h2⟩ := h
  rcases (show k = 0 ∨ k = 1 ∨ k = 2 by omega) with rfl | rfl | rfl
  · exact h0
  · exact h1
  · exact h2
theorem jm_w142_gd {σ σ' : jw_H} {a b c : Int} (hP : jm_Pb σ) (h : jm_w142 σ σ' a b c) : jm_gk σ' (σ' 142) (σ' 103 4).toNat = jm_gd3 σ a b c := by
  have h4 := hP.2.1
  rw [h.1 103 (by omega)]
  exact jm_gk_cg (h.1 104 (by omega)) (fun k k0 k1 => jm_w142_k h k0 (by omega))
theorem jm_w142_ct {σ σ' : jw_H} {a b c : Int} (h : jm_w142 σ σ' a b c) (i : Int) : jm_ct σ' i = jm_ct σ i := by
  unfold jm_ct
  rw [h.1 132 (by omega), h.1 133 (by omega), h.1 134 (by omega), h.1 135 (by omega)]
theorem jm_takesW {n : Nat} {σ : jw_H} {a b c : Int} (ha : jw_rg a) (hb : jw_rg b) (hc : jw_rg c)  : jw_T (js_S n) 2 293 [.inr (.inr 103), .inl a, .inl b, .inl c] σ (fun r σ' => ∃ v, r = some (.inl v) ∧ jm_w142 σ σ' a b c ∧ (v = 1 ∧ jm_wok a b c ∨ v = 0 ∧ ¬ jm_wok a b c)) := by
  refine jw_T_of (D := 1) (M := mm_293) rfl (Nat.le_of_ble_eq_true rfl) (ls0 := [some (.inr (.inr 103)), some (.inl a), some (.inl b), some (.inl c)]) rfl ?_ (by rintro _ _ ⟨v, rfl, -, ⟨rfl, -⟩ | ⟨rfl, -⟩⟩ <;> rfl)
  have rha := ha
  unfold jw_rg at rha
  have rhb := hb
  unfold jw_rg at rhb
  have rhc := hc
  unfold jw_rg at rhc
  refine jw_W_n 1 (i' := 1) (ls' := [some (.inr (.inr 103)), some (.inl a), some (.inl b), some (.inl c)]) (st' := [.inr (.inr 103)]) rfl ?_
  refine jw_W_gf rfl rfl rfl ?_
  show jw_W (js_S n) _ md_293 2 [some (.inr (.inr 103)), some (.inl a), some (.inl b), some (.inl c)] [.inr (.inr 142)] σ _
  refine jw_W_n 2 (i' := 4) (ls' := [some (.inr (.inr 103)), some (.inl a), some (.inl b), some (.inl c)]) (st' := [.inl a, .inl 0, .inr (.inr 142)]) rfl ?_
  refine jw_W_is rfl (by omega) rfl (by omega) (by omega) (by omega) ?_
  refine jw_W_n 1 (i' := 6) (ls' := [some (.inr (.inr 103)), some (.inl a), some (.inl b), some (.inl c)]) (st' := [.inr (.inr 103)]) rfl ?_
  refine jw_W_gf rfl rfl rfl ?_
  show jw_W (js_S n) _ md_293 7 [some (.inr (.inr 103)), some (.inl a), some (.inl b), some (.inl c)] [.inr (.inr 142)] ((jw_up σ 142 0 a)) _
  refine jw_W_n 2 (i' := 9) (ls' := [some (.inr (.inr 103)), some (.inl a), some (.inl b), some (.inl c)]) (st' := [.inl b, .inl 1, .inr (.inr 142)]) rfl ?_
  refine jw_W_is rfl (by omega) rfl (by omega) (by omega) (by omega) ?_
  refine jw_W_n 1 (i' := 11) (ls' := [some (.inr (.inr 103)), some (.inl a), some (.inl b), some (.inl c)]) (st' := [.inr (.inr 103)]) rfl ?_
  refine jw_W_gf rfl rfl rfl ?_
  show jw_W (js_S n) _ md_293 12 [some (.inr (.inr 103)), some (.inl a), some (.inl b), some (.inl c)] [.inr (.inr 142)] ((jw_up (jw_up σ 142 0 a) 142 1 b)) _
  refine jw_W_n 2 (i' := 14) (ls' := [some (.inr (.inr 103)), some (.inl a), some (.inl b), some (.inl c)]) (st' := [.inl c, .inl 2, .inr (.inr 142)]) rfl ?_
  refine jw_W_is rfl (by omega) rfl (by omega) (by omega) (by omega) ?_
  refine jw_W_n 3 (i' := 18) (ls' := [some (.inr (.inr 103)), some (.inl a), some (.inl b), some (.inl c)]) (st' := [.inl 9, .inl 0, .inl a]) rfl ?_
  refine jw_W_call (as := [.inl a, .inl 0, .inl 9]) (rest := []) rfl rfl rfl rfl (Nat.le_of_ble_eq_true rfl) (.inl rfl) (jm_in (by unfold jw_rg; omega) (by unfold jw_rg; omega) (by unfold jw_rg; omega)) (by omega) ?_ rfl
  rintro r1 σz (⟨rfl, hs, q1⟩ | ⟨rfl, hs, q1⟩)
  · rw [hs]
    show jw_W (js_S n) _ md_293 19 [some (.inr (.inr 103)), some (.inl a), some (.inl b), some (.inl c)] [.inl 1] ((jw_up (jw_up (jw_up σ 142 0 a) 142 1 b) 142 2 c)) _
    refine jw_W_if rfl (by unfold jw_rg; omega) (fun hc1 => ?_) (fun hc1 => ?_)
    · exact absurd hc1 (show ¬ ((1 : Int) = 0) by omega)
    · clear hc1
      refine jw_W_n 3 (i' := 23) (ls' := [some (.inr (.inr 103)), some (.inl a), some (.inl b), some (.inl c)]) (st' := [.inl 9, .inl 0, .inl b]) rfl ?_
      refine jw_W_call (as := [.inl b, .inl 0, .inl 9]) (rest := []) rfl rfl rfl rfl (Nat.le_of_ble_eq_true rfl) (.inl rfl) (jm_in (by unfold jw_rg; omega) (by unfold jw_rg; omega) (by unfold jw_rg; omega)) (by omega) ?_ rfl
      rintro r1 σz (⟨rfl, hs, q2⟩ | ⟨rfl, hs, q2⟩)
      · rw [hs]
        show jw_W (js_S n) _ md_293 24 [some (.inr (.inr 103)), some (.inl a), some (.inl b), some (.inl c)] [.inl 1] ((jw_up (jw_up (jw_up σ 142 0 a) 142 1 b) 142 2 c)) _
        refine jw_W_if rfl (by unfold jw_rg; omega) (fun hc2 => ?_) (fun hc2 => ?_)
        · exact absurd hc2 (show ¬ ((1 : Int) = 0) by omega)
        · clear hc2
          refine jw_W_n 3 (i' := 28) (ls' := [some (.inr (.inr 103)), some (.inl a), some (.inl b), some (.inl c)]) (st' := [.inl 9, .inl 0, .inl c]) rfl ?_
          refine jw_W_call (as := [.inl c, .inl 0, .inl 9]) (rest := []) rfl rfl rfl rfl (Nat.le_of_ble_eq_true rfl) (.inl rfl) (jm_in (by unfold jw_rg; omega) (by unfold jw_rg; omega) (by unfold jw_rg; omega)) (by omega) ?_ rfl
          rintro r1 σz (⟨rfl, hs, q3⟩ | ⟨rfl, hs, q3⟩)
          · rw [hs]
            show jw_W (js_S n) _ md_293 29 [some (.inr (.inr 103)), some (.inl a), some (.inl b), some (.inl c)] [.inl 1] ((jw_up (jw_up (jw_up σ 142 0 a) 142 1 b) 142 2 c)) _
            refine jw_W_if rfl (by unfold jw_rg; omega) (fun hc3 => ?_) (fun hc3 => ?_)
            · exact absurd hc3 (show ¬ ((1 : Int) = 0) by omega)
            · clear hc3
              refine jw_W_n 2 (i' := 33) (ls' := [some (.inr (.inr 103)), some (.inl a), some (.inl b), some (.inl c)]) (st' := [.inl 1]) rfl ?_
              refine jw_W_ir rfl ?_
              refine ⟨_, rfl, ⟨fun o ho => by rw [jw_up_out _ _ _ ho, jw_up_out _ _ _ ho, jw_up_out _ _ _ ho], rfl, rfl, rfl⟩, ?_⟩
              exact .inl ⟨rfl, by unfold jm_wok; omega⟩
          · rw [hs]
            show jw_W (js_S n) _ md_293 29 [some (.inr (.inr 103)), some (.inl a), some (.inl b), some (.inl c)] [.inl 0] ((jw_up (jw_up (jw_up σ 142 0 a) 142 1 b) 142 2 c)) _
            refine jw_W_if rfl (by unfold jw_rg; omega) (fun hc4 => ?_) (fun hc4 => ?_)
            · clear hc4
              refine jw_W_n 1 (i' := 33) (ls' := [some (.inr (.inr 103)), some (.inl a), some (.inl b), some (.inl c)]) (st' := [.inl 0]) rfl ?_
              refine jw_W_ir rfl ?_
              refine ⟨_, rfl, ⟨fun o ho => by rw [jw_up_out _ _ _ ho, jw_up_out _ _ _ ho, jw_up_out _ _ _ ho], rfl, rfl, rfl⟩, ?_⟩
              exact .inr ⟨rfl, by unfold jm_wok; omega⟩
            · exact absurd hc4 (show ¬ ¬ ((0 : Int) = 0) by omega)
      · rw [hs]
        show jw_W (js_S n) _ md_293 24 [some (.inr (.inr 103)), some (.inl a), some (.inl b), some (.inl c)] [.inl 0] ((jw_up (jw_up (jw_up σ 142 0 a) 142 1 b) 142 2 c)) _
        refine jw_W_if rfl (by unfold jw_rg; omega) (fun hc5 => ?_) (fun hc5 => ?_)
        · clear hc5
          refine jw_W_n 1 (i' := 33) (ls' := [some (.inr (.inr 103)), some (.inl a), some (.inl b), some (.inl c)]) (st' := [.inl 0]) rfl ?_
          refine jw_W_ir rfl ?_
          refine ⟨_, rfl, ⟨fun o ho => by rw [jw_up_out _ _ _ ho, jw_up_out _ _ _ ho, jw_up_out _ _ _ ho], rfl, rfl, rfl⟩, ?_⟩
          exact .inr ⟨rfl, by unfold jm_wok; omega⟩
        · exact absurd hc5 (show ¬ ¬ ((0 : Int) = 0) by omega)
  · rw [hs]
    show jw_W (js_S n) _ md_293 19 [some (.inr (.inr 103)), some (.inl a), some (.inl b), some (.inl c)] [.inl 0] ((jw_up (jw_up (jw_up σ 142 0 a) 142 1 b) 142 2 c)) _
    refine jw_W_if rfl (by unfold jw_rg; omega) (fun hc6 => ?_) (fun hc6 => ?_)
    · clear hc6
      refine jw_W_n 1 (i' := 33) (ls' := [some (.inr (.inr 103)), some (.inl a), some (.inl b), some (.inl c)]) (st' := [.inl 0]) rfl ?_
      refine jw_W_ir rfl ?_
      refine ⟨_, rfl, ⟨fun o ho => by rw [jw_up_out _ _ _ ho, jw_up_out _ _ _ ho, jw_up_out _ _ _ ho], rfl, rfl, rfl⟩, ?_⟩
      exact .inr ⟨rfl, by unfold jm_wok; omega⟩
    · exact absurd hc6 (show ¬ ¬ ((0 : Int) = 0) by omega)
theorem jm_gk_f {σ : jw_H} {w : Int → Int} {x y z k : Int} (k0 : 0 ≤ k) : (jm_gk σ w (k + 1).toNat).1 * x + (jm_gk σ w (k + 1).toNat).2.1 * y + (jm_gk σ w (k + 1).toNat).2.2 * z = ((jm_gk σ w k.toNat).1 * x + (jm_gk σ w k.toNat).2.1 * y + (jm_gk σ w k.toNat).2.2 * z) + w k * (σ 104 (3 * k) * x + σ 104 (3 * k + 1) * y + σ 104 (3 * k + 2) * z) := by
  rw [show (k + 1).toNat = k.toNat + 1 by omega]
  conv => lhs; unfold jm_gk
  rw [Int.toNat_of_nonneg k0]
  dsimp only
  grind
theorem jm_weighed_loop {n : Nat} {σ : jw_H} {C : List (ge_R × Int)} (hKN : jm_KN σ C) {x y z : Int} (hw3 : ∀ k, 0 ≤ k → k < 3 → 0 ≤ σ 142 k ∧ σ 142 k ≤ 9) : ∀ (f : Nat) {k s : Int}, 0 ≤ k → k + f = σ 103 4 → s = (jm_gk σ (σ 142) k.toNat).1 * x + (jm_gk σ (σ 142) k.toNat).2.1 * y + (jm_gk σ (σ 142) k.toNat).2.2 * z → jw_W (js_S n) 2 md_294 4 [some (.inr (.inr 103)), some (.inr (.inl x)), none, some (.inr (.inl y)), none, some (.inr (.inl z)), none, some (.inr (.inl s)), none, some (.inl k)] [] σ (fun r σ' => r = some (.inr (.inl ((jm_gk σ (σ 142) (σ 103 4).toNat).1 * x + (jm_gk σ (σ 142) (σ 103 4).toNat).2.1 * y + (jm_gk σ (σ 142) (σ 103 4).toNat).2.2 * z))) ∧ σ' = σ)
  | f, k, s, k0, hk, H => by
    have ih : ∀ {s' : Int}, k < σ 103 4 → s' = (jm_gk σ (σ 142) (k + 1).toNat).1 * x + (jm_gk σ (σ 142) (k + 1).toNat).2.1 * y + (jm_gk σ (σ 142) (k + 1).toNat).2.2 * z → jw_W (js_S n) 2 md_294 4 [some (.inr (.inr 103)), some (.inr (.inl x)), none, some (.inr (.inl y)), none, some (.inr (.inl z)), none, some (.inr (.inl s')), none, some (.inl (k + 1))] [] σ (fun r σ' => r = some (.inr (.inl ((jm_gk σ (σ 142) (σ 103 4).toNat).1 * x + (jm_gk σ (σ 142) (σ 103 4).toNat).2.1 * y + (jm_gk σ (σ 142) (σ 103 4).toNat).2.2 * z))) ∧ σ' = σ) := by
      intro s' h1 h2
      match f, hk with
      | 0, hk => omega
      | f + 1, hk => exact jm_weighed_loop hKN hw3 f (by omega) (by omega) h2
    have hcb := (jm_kw_cbd hKN.1).2 σ (jm_fk_rf σ)
    have hcn := hcb.1
    have hPm := hKN.1.1
    have hqq := hPm.1
    have hww := hPm.2.1
    have hkk := hPm.2.2.1
    have hg57 := hKN.2.2.1.1
    have hg58 := hKN.2.2.2.1.1
    by_cases hk3 : k < σ 103 4
    · have hwk := hw3 k k0 (by omega)
      refine jw_W_n 2 (i' := 6) (ls' := [some (.inr (.inr 103)), some (.inr (.inl x)), none, some (.inr (.inl y)), none, some (.inr (.inl z)), none, some (.inr (.inl s)), none, some (.inl k)]) (st' := [.inr (.inr 103), .inl k]) rfl ?_
      refine jw_W_gf rfl rfl rfl ?_
      show jw_W (js_S n) _ md_294 7 [some (.inr (.inr 103)), some (.inr (.inl x)), none, some (.inr (.inl y)), none, some (.inr (.inl z)), none, some (.inr (.inl s)), none, some (.inl k)] [.inl (σ 103 4), .inl k] σ _
      refine jw_W_ic rfl (by unfold jw_rg; omega) (by unfold jw_rg; omega) (fun hc1 => ?_) (fun hc1 => ?_)
      · have hc1 : k ≥ (σ 103 4) := hc1
        refine jw_W_n 1 (i' := 26) (ls' := [some (.inr (.inr 103)), some (.inr (.inl x)), none, some (.inr (.inl y)), none, some (.inr (.inl z)), none, some (.inr (.inl s)), none, some (.inl k)]) (st' := [.inr (.inl s)]) rfl ?_
        refine jw_W_lr rfl ?_
        have hkl : k = σ 103 4 := by omega
        subst hkl
        exact ⟨by rw [H], rfl⟩
      · have hc1 : ¬ (k ≥ (σ 103 4)) := hc1
        refine jw_W_n 2 (i' := 10) (ls' := [some (.inr (.inr 103)), some (.inr (.inl x)), none, some (.inr (.inl y)), none, some (.inr (.inl z)), none, some (.inr (.inl s)), none, some (.inl k)]) (st' := [.inr (.inr 103), .inr (.inl s)]) rfl ?_
        refine jw_W_gf rfl rfl rfl ?_
        show jw_W (js_S n) _ md_294 11 [some (.inr (.inr 103)), some (.inr (.inl x)), none, some (.inr (.inl y)), none, some (.inr (.inl z)), none, some (.inr (.inl s)), none, some (.inl k)] [.inr (.inr 142), .inr (.inl s)] σ _
        refine jw_W_n 1 (i' := 12) (ls' := [some (.inr (.inr 103)), some (.inr (.inl x)), none, some (.inr (.inl y)), none, some (.inr (.inl z)), none, some (.inr (.inl s)), none, some (.inl k)]) (st' := [.inl k, .inr (.inr 142), .inr (.inl s)]) rfl ?_
        refine jw_W_ia rfl rfl (by omega) (by omega) (by omega) ?_
        show jw_W (js_S n) _ md_294 13 [some (.inr (.inr 103)), some (.inr (.inl x)), none, some (.inr (.inl y)), none, some (.inr (.inl z)), none, some (.inr (.inl s)), none, some (.inl k)] [.inl (σ 142 k), .inr (.inl s)] σ _
        refine jw_W_i2l rfl (by unfold jw_rg; omega) ?_
        refine jw_W_n 5 (i' := 19) (ls' := [some (.inr (.inr 103)), some (.inr (.inl x)), none, some (.inr (.inl y)), none, some (.inr (.inl z)), none, some (.inr (.inl s)), none, some (.inl k)]) (st' := [.inr (.inl z), .inr (.inl y), .inr (.inl x), .inl k, .inr (.inr 103), .inr (.inl (σ 142 k)), .inr (.inl s)]) rfl ?_
        refine jw_W_call (as := [.inr (.inr 103), .inl k, .inr (.inl x), .inr (.inl y), .inr (.inl z)]) (rest := [.inr (.inl (σ 142 k)), .inr (.inl s)]) rfl rfl rfl rfl (Nat.le_of_ble_eq_true rfl) (.inr rfl) (jm_wished hPm k0 (by omega)) (by omega) ?_ rfl
        rintro r1 σz ⟨rfl, hs⟩
        rw [hs]
        show jw_W (js_S n) _ md_294 20 [some (.inr (.inr 103)), some (.inr (.inl x)), none, some (.inr (.inl y)), none, some (.inr (.inl z)), none, some (.inr (.inl s)), none, some (.inl k)] [.inr (.inl (σ 104 (3 * k) * x + σ 104 (3 * k + 1) * y + σ 104 (3 * k + 2) * z)), .inr (.inl (σ 142 k)), .inr (.inl s)] σ _
        refine jw_W_n 5 (i' := 4) (ls' := [some (.inr (.inr 103)), some (.inr (.inl x)), none, some (.inr (.inl y)), none, some (.inr (.inl z)), none, some (.inr (.inl (s + ((σ 142 k) * (σ 104 (3 * k) * x + σ 104 (3 * k + 1) * y + σ 104 (3 * k + 2) * z))))), none, some (.inl (k + 1))]) (st' := []) rfl ?_
        exact ih (by omega) (by rw [jm_gk_f k0, ← H])
    · have hwk : (0 : Int) ≤ 0 := by omega
      refine jw_W_n 2 (i' := 6) (ls' := [some (.inr (.inr 103)), some (.inr (.inl x)), none, some (.inr (.inl y)), none, some (.inr (.inl z)), none, some (.inr (.inl s)), none, some (.inl k)]) (st' := [.inr (.inr 103), .inl k]) rfl ?_
      refine jw_W_gf rfl rfl rfl ?_
      show jw_W (js_S n) _ md_294 7 [some (.inr (.inr 103)), some (.inr (.inl x)), none, some (.inr (.inl y)), none, some (.inr (.inl z)), none, some (.inr (.inl s)), none, some (.inl k)] [.inl (σ 103 4), .inl k] σ _
      refine jw_W_ic rfl (by unfold jw_rg; omega) (by unfold jw_rg; omega) (fun hc1 => ?_) (fun hc1 => ?_)
      · have hc1 : k ≥ (σ 103 4) := hc1
        refine jw_W_n 1 (i' := 26) (ls' := [some (.inr (.inr 103)), some (.inr (.inl x)), none, some (.inr (.inl y)), none, some (.inr (.inl z)), none, some (.inr (.inl s)), none, some (.inl k)]) (st' := [.inr (.inl s)]) rfl ?_
        refine jw_W_lr rfl ?_
        have hkl : k = σ 103 4 := by omega
        subst hkl
        exact ⟨by rw [H], rfl⟩
      · have hc1 : ¬ (k ≥ (σ 103 4)) := hc1
        refine jw_W_n 2 (i' := 10) (ls' := [some (.inr (.inr 103)), some (.inr (.inl x)), none, some (.inr (.inl y)), none, some (.inr (.inl z)), none, some (.inr (.inl s)), none, some (.inl k)]) (st' := [.inr (.inr 103), .inr (.inl s)]) rfl ?_
        refine jw_W_gf rfl rfl rfl ?_
        show jw_W (js_S n) _ md_294 11 [some (.inr (.inr 103)), some (.inr (.inl x)), none, some (.inr (.inl y)), none, some (.inr (.inl z)), none, some (.inr (.inl s)), none, some (.inl k)] [.inr (.inr 142), .inr (.inl s)] σ _
        refine jw_W_n 1 (i' := 12) (ls' := [some (.inr (.inr 103)), some (.inr (.inl x)), none, some (.inr (.inl y)), none, some (.inr (.inl z)), none, some (.inr (.inl s)), none, some (.inl k)]) (st' := [.inl k, .inr (.inr 142), .inr (.inl s)]) rfl ?_
        refine jw_W_ia rfl rfl (by omega) (by omega) (by omega) ?_
        show jw_W (js_S n) _ md_294 13 [some (.inr (.inr 103)), some (.inr (.inl x)), none, some (.inr (.inl y)), none, some (.inr (.inl z)), none, some (.inr (.inl s)), none, some (.inl k)] [.inl (σ 142 k), .inr (.inl s)] σ _
        refine jw_W_i2l rfl (by unfold jw_rg; omega) ?_
        refine jw_W_n 5 (i' := 19) (ls' := [some (.inr (.inr 103)), some (.inr (.inl x)), none, some (.inr (.inl y)), none, some (.inr (.inl z)), none, some (.inr (.inl s)), none, some (.inl k)]) (st' := [.inr (.inl z), .inr (.inl y), .inr (.inl x), .inl k, .inr (.inr 103), .inr (.inl (σ 142 k)), .inr (.inl s)]) rfl ?_
        refine jw_W_call (as := [.inr (.inr 103), .inl k, .inr (.inl x), .inr (.inl y), .inr (.inl z)]) (rest := [.inr (.inl (σ 142 k)), .inr (.inl s)]) rfl rfl rfl rfl (Nat.le_of_ble_eq_true rfl) (.inr rfl) (jm_wished hPm k0 (by omega)) (by omega) ?_ rfl
        rintro r1 σz ⟨rfl, hs⟩
        rw [hs]
        show jw_W (js_S n) _ md_294 20 [some (.inr (.inr 103)), some (.inr (.inl x)), none, some (.inr (.inl y)), none, some (.inr (.inl z)), none, some (.inr (.inl s)), none, some (.inl k)] [.inr (.inl (σ 104 (3 * k) * x + σ 104 (3 * k + 1) * y + σ 104 (3 * k + 2) * z)), .inr (.inl (σ 142 k)), .inr (.inl s)] σ _
        refine jw_W_n 5 (i' := 4) (ls' := [some (.inr (.inr 103)), some (.inr (.inl x)), none, some (.inr (.inl y)), none, some (.inr (.inl z)), none, some (.inr (.inl (s + ((σ 142 k) * (σ 104 (3 * k) * x + σ 104 (3 * k + 1) * y + σ 104 (3 * k + 2) * z))))), none, some (.inl (k + 1))]) (st' := []) rfl ?_
        exact ih (by omega) (by rw [jm_gk_f k0, ← H])
theorem jm_weighed {n : Nat} {σ : jw_H} {C : List (ge_R × Int)} (hKN : jm_KN σ C) {x y z : Int} (hw3 : ∀ k, 0 ≤ k → k < 3 → 0 ≤ σ 142 k ∧ σ 142 k ≤ 9) : jw_T (js_S n) 3 294 [.inr (.inr 103), .inr (.inl x), .inr (.inl y), .inr (.inl z)] σ (fun r σ' => r = some (.inr (.inl ((jm_gk σ (σ 142) (σ 103 4).toNat).1 * x + (jm_gk σ (σ 142) (σ 103 4).toNat).2.1 * y + (jm_gk σ (σ 142) (σ 103 4).toNat).2.2 * z))) ∧ σ' = σ) := by
  refine jw_T_of (D := 2) (M := mm_294) rfl (Nat.le_of_ble_eq_true rfl) (ls0 := [some (.inr (.inr 103)), some (.inr (.inl x)), none, some (.inr (.inl y)), none, some (.inr (.inl z)), none, none, none, none]) rfl ?_ (by rintro _ _ ⟨rfl, -⟩; rfl)
  have hcb := (jm_kw_cbd hKN.1).2 σ (jm_fk_rf σ)
  have hcn := hcb.1
  have hPm := hKN.1.1
  have hqq := hPm.1
  have hww := hPm.2.1
  have hkk := hPm.2.2.1
  have hg57 := hKN.2.2.1.1
  have hg58 := hKN.2.2.2.1.1
  refine jw_W_n 4 (i' := 4) (ls' := [some (.inr (.inr 103)), some (.inr (.inl x)), none, some (.inr (.inl y)), none, some (.inr (.inl z)), none, some (.inr (.inl 0)), none, some (.inl 0)]) (st' := []) rfl ?_
  exact jm_weighed_loop hKN hw3 (σ 103 4).toNat (k := 0) (by omega) (by omega) (by show (0 : Int) = 0 * x + 0 * y + 0 * z; omega)
theorem jm_weighedOf {n : Nat} {σ : jw_H} {C : List (ge_R × Int)} (hKN : jm_KN σ C) {i : Int} (hw3 : ∀ k, 0 ≤ k → k < 3 → 0 ≤ σ 142 k ∧ σ 142 k ≤ 9) (i0 : 0 ≤ i) (i1 : i < σ 103 56) : jw_T (js_S n) 4 295 [.inr (.inr 103), .inl i] σ (fun r σ' => r = some (.inr (.inl (ge_f (jm_gk σ (σ 142) (σ 103 4).toNat) (jm_ct σ i)))) ∧ σ' = σ) := by
  refine jw_T_of (D := 3) (M := mm_295) rfl (Nat.le_of_ble_eq_true rfl) (ls0 := [some (.inr (.inr 103)), some (.inl i)]) rfl ?_ (by rintro _ _ ⟨rfl, -⟩; rfl)
  have hcb := (jm_kw_cbd hKN.1).2 σ (jm_fk_rf σ)
  have hcn := hcb.1
  have hPm := hKN.1.1
  have hqq := hPm.1
  have hww := hPm.2.1
  have hkk := hPm.2.2.1
  have hg57 := hKN.2.2.1.1
  have hg58 := hKN.2.2.2.1.1
  refine jw_W_n 2 (i' := 2) (ls' := [some (.inr (.inr 103)), some (.inl i)]) (st' := [.inr (.inr 103), .inr (.inr 103)]) rfl ?_
  refine jw_W_gf rfl rfl rfl ?_
  show jw_W (js_S n) _ md_295 3 [some (.inr (.inr 103)), some (.inl i)] [.inr (.inr 132), .inr (.inr 103)] σ _
  refine jw_W_n 1 (i' := 4) (ls' := [some (.inr (.inr 103)), some (.inl i)]) (st' := [.inl i, .inr (.inr 132), .inr (.inr 103)]) rfl ?_
  refine jw_W_la rfl rfl (by omega) (by omega) (by omega) ?_
  show jw_W (js_S n) _ md_295 5 [some (.inr (.inr 103)), some (.inl i)] [.inr (.inl (σ 132 i)), .inr (.inr 103)] σ _
  refine jw_W_n 1 (i' := 6) (ls' := [some (.inr (.inr 103)), some (.inl i)]) (st' := [.inr (.inr 103), .inr (.inl (σ 132 i)), .inr (.inr 103)]) rfl ?_
  refine jw_W_gf rfl rfl rfl ?_
  show jw_W (js_S n) _ md_295 7 [some (.inr (.inr 103)), some (.inl i)] [.inr (.inr 133), .inr (.inl (σ 132 i)), .inr (.inr 103)] σ _
  refine jw_W_n 1 (i' := 8) (ls' := [some (.inr (.inr 103)), some (.inl i)]) (st' := [.inl i, .inr (.inr 133), .inr (.inl (σ 132 i)), .inr (.inr 103)]) rfl ?_
  refine jw_W_la rfl rfl (by omega) (by omega) (by omega) ?_
  show jw_W (js_S n) _ md_295 9 [some (.inr (.inr 103)), some (.inl i)] [.inr (.inl (σ 133 i)), .inr (.inl (σ 132 i)), .inr (.inr 103)] σ _
  refine jw_W_n 1 (i' := 10) (ls' := [some (.inr (.inr 103)), some (.inl i)]) (st' := [.inr (.inr 103), .inr (.inl (σ 133 i)), .inr (.inl (σ 132 i)), .inr (.inr 103)]) rfl ?_
  refine jw_W_gf rfl rfl rfl ?_
  show jw_W (js_S n) _ md_295 11 [some (.inr (.inr 103)), some (.inl i)] [.inr (.inr 134), .inr (.inl (σ 133 i)), .inr (.inl (σ 132 i)), .inr (.inr 103)] σ _
  refine jw_W_n 1 (i' := 12) (ls' := [some (.inr (.inr 103)), some (.inl i)]) (st' := [.inl i, .inr (.inr 134), .inr (.inl (σ 133 i)), .inr (.inl (σ 132 i)), .inr (.inr 103)]) rfl ?_
  refine jw_W_la rfl rfl (by omega) (by omega) (by omega) ?_
  show jw_W (js_S n) _ md_295 13 [some (.inr (.inr 103)), some (.inl i)] [.inr (.inl (σ 134 i)), .inr (.inl (σ 133 i)), .inr (.inl (σ 132 i)), .inr (.inr 103)] σ _
  refine jw_W_call (as := [.inr (.inr 103), .inr (.inl (σ 132 i)), .inr (.inl (σ 133 i)), .inr (.inl (σ 134 i))]) (rest := []) rfl rfl rfl rfl (Nat.le_of_ble_eq_true rfl) (.inr rfl) (jm_weighed hKN hw3) (by omega) ?_ rfl
  rintro r1 σz ⟨rfl, hs⟩
  rw [hs]
  show jw_W (js_S n) _ md_295 14 [some (.inr (.inr 103)), some (.inl i)] [.inr (.inl (ge_f (jm_gk σ (σ 142) (σ 103 4).toNat) (jm_ct σ i)))] σ _
  refine jw_W_lr rfl ?_
  exact ⟨rfl, rfl⟩
theorem jm_bestC_loop {n : Nat} {σ : jw_H} {C : List (ge_R × Int)} (hKN : jm_KN σ C) (hw3 : ∀ k, 0 ≤ k → k < 3 → 0 ≤ σ 142 k ∧ σ 142 k ≤ 9) : ∀ (f : Nat) {b m : Int}, 1 ≤ m → m + f = σ 103 56 → 0 ≤ b ∧ b < m → jx_fst (jm_gk σ (σ 142) (σ 103 4).toNat) (jm_ct σ) m b → jw_W (js_S n) 5 md_296 4 [some (.inr (.inr 103)), some (.inl b), some (.inl m)] [] σ (fun r σ' => ∃ b, r = some (.inl b) ∧ σ' = σ ∧ jx_fst (jm_gk σ (σ 142) (σ 103 4).toNat) (jm_ct σ) (σ 103 56) b)
  | f, b, m, m0, hk, hB, H => by
    have ih : ∀ {b' : Int}, m < σ 103 56 → 0 ≤ b' ∧ b' < m + 1 → jx_fst (jm_gk σ (σ 142) (σ 103 4).toNat) (jm_ct σ) (m + 1) b' → jw_W (js_S n) 5 md_296 4 [some (.inr (.inr 103)), some (.inl b'), some (.inl (m + 1))] [] σ (fun r σ' => ∃ b, r = some (.inl b) ∧ σ' = σ ∧ jx_fst (jm_gk σ (σ 142) (σ 103 4).toNat) (jm_ct σ) (σ 103 56) b) := by
      intro b' h1 h2 h3
      match f, hk with
      | 0, hk => omega
      | f + 1, hk => exact jm_bestC_loop hKN hw3 f (by omega) (by omega) h2 h3
    have hcb := (jm_kw_cbd hKN.1).2 σ (jm_fk_rf σ)
    have hcn := hcb.1
    have hPm := hKN.1.1
    have hqq := hPm.1
    have hww := hPm.2.1
    have hkk := hPm.2.2.1
    have hg57 := hKN.2.2.1.1
    have hg58 := hKN.2.2.2.1.1
    have hGb := jm_gk_Gb hPm (w := σ 142) (fun k k0 k1 => hw3 k k0 (by omega))
    refine jw_W_n 2 (i' := 6) (ls' := [some (.inr (.inr 103)), some (.inl b), some (.inl m)]) (st' := [.inr (.inr 103), .inl m]) rfl ?_
    refine jw_W_gf rfl rfl rfl ?_
    show jw_W (js_S n) _ md_296 7 [some (.inr (.inr 103)), some (.inl b), some (.inl m)] [.inl (σ 103 56), .inl m] σ _
    refine jw_W_ic rfl (by unfold jw_rg; omega) (by unfold jw_rg; omega) (fun hc1 => ?_) (fun hc1 => ?_)
    · have hc1 : m ≥ (σ 103 56) := hc1
      refine jw_W_n 1 (i' := 31) (ls' := [some (.inr (.inr 103)), some (.inl b), some (.inl m)]) (st' := [.inl b]) rfl ?_
      refine jw_W_ir rfl ?_
      have hkl : m = σ 103 56 := by omega
      subst hkl
      exact ⟨_, rfl, rfl, H⟩
    · have hc1 : ¬ (m ≥ (σ 103 56)) := hc1
      refine jw_W_n 2 (i' := 10) (ls' := [some (.inr (.inr 103)), some (.inl b), some (.inl m)]) (st' := [.inl m, .inr (.inr 103)]) rfl ?_
      refine jw_W_call (as := [.inr (.inr 103), .inl m]) (rest := []) rfl rfl rfl rfl (Nat.le_of_ble_eq_true rfl) (.inr rfl) (jm_weighedOf hKN hw3 (by omega) (by omega)) (by omega) ?_ rfl
      rintro r1 σz ⟨rfl, hs⟩
      rw [hs]
      show jw_W (js_S n) _ md_296 11 [some (.inr (.inr 103)), some (.inl b), some (.inl m)] [.inr (.inl (ge_f (jm_gk σ (σ 142) (σ 103 4).toNat) (jm_ct σ m)))] σ _
      refine jw_W_n 1 (i' := 12) (ls' := [some (.inr (.inr 103)), some (.inl b), some (.inl m)]) (st' := [.inr (.inr 103), .inr (.inl (ge_f (jm_gk σ (σ 142) (σ 103 4).toNat) (jm_ct σ m)))]) rfl ?_
      refine jw_W_gf rfl rfl rfl ?_
      show jw_W (js_S n) _ md_296 13 [some (.inr (.inr 103)), some (.inl b), some (.inl m)] [.inr (.inr 135), .inr (.inl (ge_f (jm_gk σ (σ 142) (σ 103 4).toNat) (jm_ct σ m)))] σ _
      refine jw_W_n 1 (i' := 14) (ls' := [some (.inr (.inr 103)), some (.inl b), some (.inl m)]) (st' := [.inl b, .inr (.inr 135), .inr (.inl (ge_f (jm_gk σ (σ 142) (σ 103 4).toNat) (jm_ct σ m)))]) rfl ?_
      refine jw_W_la rfl rfl (by omega) (by omega) (by omega) ?_
      show jw_W (js_S n) _ md_296 15 [some (.inr (.inr 103)), some (.inl b), some (.inl m)] [.inr (.inl (σ 135 b)), .inr (.inl (ge_f (jm_gk σ (σ 142) (σ 103 4).toNat) (jm_ct σ m)))] σ _
      refine jw_W_n 3 (i' := 18) (ls' := [some (.inr (.inr 103)), some (.inl b), some (.inl m)]) (st' := [.inl b, .inr (.inr 103), .inr (.inl ((ge_f (jm_gk σ (σ 142) (σ 103 4).toNat) (jm_ct σ m)) * (σ 135 b)))]) rfl ?_
      refine jw_W_call (as := [.inr (.inr 103), .inl b]) (rest := [.inr (.inl ((ge_f (jm_gk σ (σ 142) (σ 103 4).toNat) (jm_ct σ m)) * (σ 135 b)))]) rfl rfl rfl rfl (Nat.le_of_ble_eq_true rfl) (.inr rfl) (jm_weighedOf hKN hw3 (by omega) (by omega)) (by omega) ?_ rfl
      rintro r1 σz ⟨rfl, hs⟩
      rw [hs]
      show jw_W (js_S n) _ md_296 19 [some (.inr (.inr 103)), some (.inl b), some (.inl m)] [.inr (.inl (ge_f (jm_gk σ (σ 142) (σ 103 4).toNat) (jm_ct σ b))), .inr (.inl ((ge_f (jm_gk σ (σ 142) (σ 103 4).toNat) (jm_ct σ m)) * (σ 135 b)))] σ _
      refine jw_W_n 1 (i' := 20) (ls' := [some (.inr (.inr 103)), some (.inl b), some (.inl m)]) (st' := [.inr (.inr 103), .inr (.inl (ge_f (jm_gk σ (σ 142) (σ 103 4).toNat) (jm_ct σ b))), .inr (.inl ((ge_f (jm_gk σ (σ 142) (σ 103 4).toNat) (jm_ct σ m)) * (σ 135 b)))]) rfl ?_
      refine jw_W_gf rfl rfl rfl ?_
      show jw_W (js_S n) _ md_296 21 [some (.inr (.inr 103)), some (.inl b), some (.inl m)] [.inr (.inr 135), .inr (.inl (ge_f (jm_gk σ (σ 142) (σ 103 4).toNat) (jm_ct σ b))), .inr (.inl ((ge_f (jm_gk σ (σ 142) (σ 103 4).toNat) (jm_ct σ m)) * (σ 135 b)))] σ _
      refine jw_W_n 1 (i' := 22) (ls' := [some (.inr (.inr 103)), some (.inl b), some (.inl m)]) (st' := [.inl m, .inr (.inr 135), .inr (.inl (ge_f (jm_gk σ (σ 142) (σ 103 4).toNat) (jm_ct σ b))), .inr (.inl ((ge_f (jm_gk σ (σ 142) (σ 103 4).toNat) (jm_ct σ m)) * (σ 135 b)))]) rfl ?_
      refine jw_W_la rfl rfl (by omega) (by omega) (by omega) ?_
      show jw_W (js_S n) _ md_296 23 [some (.inr (.inr 103)), some (.inl b), some (.inl m)] [.inr (.inl (σ 135 m)), .inr (.inl (ge_f (jm_gk σ (σ 142) (σ 103 4).toNat) (jm_ct σ b))), .inr (.inl ((ge_f (jm_gk σ (σ 142) (σ 103 4).toNat) (jm_ct σ m)) * (σ 135 b)))] σ _
      refine jw_W_n 1 (i' := 24) (ls' := [some (.inr (.inr 103)), some (.inl b), some (.inl m)]) (st' := [.inr (.inl ((ge_f (jm_gk σ (σ 142) (σ 103 4).toNat) (jm_ct σ b)) * (σ 135 m))), .inr (.inl ((ge_f (jm_gk σ (σ 142) (σ 103 4).toNat) (jm_ct σ m)) * (σ 135 b)))]) rfl ?_
      have f1 := jx_f_bd hGb (jx_ct_bd hcb (i := m) (by omega) (by omega))
      have f2 := jx_f_bd hGb (jx_ct_bd hcb (i := b) (by omega) (by omega))
      have c1 := jm_cw hcb (i := m) (by omega) (by omega)
      have c2 := jm_cw hcb (i := b) (by omega) (by omega)
      have d1 : σ 135 m ≤ 162 := (hcb.2 m (by omega) (by omega)).2
      have d2 : σ 135 b ≤ 162 := (hcb.2 b (by omega) (by omega)).2
      have m1 := jx_mulb (x := ge_f (jm_gk σ (σ 142) (σ 103 4).toNat) (jm_ct σ m)) (y := σ 135 b) (A := 9000000) (B := 9000000) (by omega) (by omega) (by omega)
      have m2 := jx_mulb (x := ge_f (jm_gk σ (σ 142) (σ 103 4).toNat) (jm_ct σ b)) (y := σ 135 m) (A := 9000000) (B := 9000000) (by omega) (by omega) (by omega)
      refine jw_W_lc rfl rfl (by unfold jw_rgl; omega) (by unfold jw_rgl; omega) (fun hc2 => ?_) (fun hc2 => ?_)
      · have hc2 : ((ge_f (jm_gk σ (σ 142) (σ 103 4).toNat) (jm_ct σ m)) * (σ 135 b)) ≤ ((ge_f (jm_gk σ (σ 142) (σ 103 4).toNat) (jm_ct σ b)) * (σ 135 m)) := hc2
        refine jw_W_n 2 (i' := 4) (ls' := [some (.inr (.inr 103)), some (.inl b), some (.inl (m + 1))]) (st' := []) rfl ?_
        exact ih (by omega) (by omega) (jx_fst_no (by omega) H (by unfold jx_wl; show ¬ (ge_f (jm_gk σ (σ 142) (σ 103 4).toNat) (jm_ct σ b) * σ 135 m < ge_f (jm_gk σ (σ 142) (σ 103 4).toNat) (jm_ct σ m) * σ 135 b); omega))
      · have hc2 : ¬ (((ge_f (jm_gk σ (σ 142) (σ 103 4).toNat) (jm_ct σ m)) * (σ 135 b)) ≤ ((ge_f (jm_gk σ (σ 142) (σ 103 4).toNat) (jm_ct σ b)) * (σ 135 m))) := hc2
        refine jw_W_n 4 (i' := 4) (ls' := [some (.inr (.inr 103)), some (.inl m), some (.inl (m + 1))]) (st' := []) rfl ?_
        exact ih (by omega) (by omega) (jx_fst_yes (fun i i0 i1 => jm_cw hcb i0 (by omega)) (by omega) H (by unfold jx_wl; show ge_f (jm_gk σ (σ 142) (σ 103 4).toNat) (jm_ct σ b) * σ 135 m < ge_f (jm_gk σ (σ 142) (σ 103 4).toNat) (jm_ct σ m) * σ 135 b; omega))
theorem jm_bestC {n : Nat} {σ : jw_H} {C : List (ge_R × Int)} (hKN : jm_KN σ C) (hw3 : ∀ k, 0 ≤ k → k < 3 → 0 ≤ σ 142 k ∧ σ 142 k ≤ 9) (hn : 0 < σ 103 56) : jw_T (js_S n) 6 296 [.inr (.inr 103)] σ (fun r σ' => ∃ b, r = some (.inl b) ∧ σ' = σ ∧ jx_fst (jm_gk σ (σ 142) (σ 103 4).toNat) (jm_ct σ) (σ 103 56) b) := by
  refine jw_T_of (D := 5) (M := mm_296) rfl (Nat.le_of_ble_eq_true rfl) (ls0 := [some (.inr (.inr 103)), none, none]) rfl ?_ (by rintro _ _ ⟨_, rfl, -⟩; rfl)
  have hcb := (jm_kw_cbd hKN.1).2 σ (jm_fk_rf σ)
  have hcn := hcb.1
  have hPm := hKN.1.1
  have hqq := hPm.1
  have hww := hPm.2.1
  have hkk := hPm.2.2.1
  have hg57 := hKN.2.2.1.1
  have hg58 := hKN.2.2.2.1.1
  refine jw_W_n 4 (i' := 4) (ls' := [some (.inr (.inr 103)), some (.inl 0), some (.inl 1)]) (st' := []) rfl ?_
  exact jm_bestC_loop hKN hw3 (σ 103 56 - 1).toNat (b := 0) (m := 1) (by omega) (by omega) (by omega) (jx_fst_1 _ _)
/-- the answers of best -/
def jm_bsc (σ : jw_H) (a b c t : Int) : Prop := jm_wok a b c ∧ (0 ≤ t ∧ t ≤ 2) ∧ σ 103 56 ≠ 0
def jm_bsa (σ : jw_H) (a b c t v : Int) : Prop := (v = -100000000 ∧ ¬ jm_bsc σ a b c t) ∨ (jm_bsc σ a b c t ∧ ∃ i, jx_fst (jm_gd3 σ a b c) (jm_ct σ) (σ 103 56) i ∧ (t = 2 ∧ v = i ∨ t ≠ 2 ∧ v = jm_of (ge_f (jm_gd3 σ a b c) (jm_ct σ i)) (σ 135 i) t))
theorem jm_bsa_uq {σ : jw_H} {a b c t u v : Int} (h1 : jm_bsa σ a b c t u) (h2 : jm_bsa σ a b c t v) : u = v := by
  rcases h1 with ⟨e1, a1⟩ | ⟨a1, i, hi, e1⟩
  · rcases h2 with ⟨e2, a2⟩ | ⟨a2, -⟩
    · rw [e1, e2]
    · exact absurd a2 a1
  · rcases h2 with ⟨e2, a2⟩ | ⟨a2, j, hj, e2⟩
    · exact absurd a1 a2
    · have := jx_fst_uq hi hj
      subst this
      rcases e1 with ⟨t1, e1⟩ | ⟨t1, e1⟩
      · rcases e2 with ⟨t2, e2⟩ | ⟨t2, e2⟩
        · rw [e1, e2]
        · exact absurd t1 t2
      · rcases e2 with ⟨t2, e2⟩ | ⟨t2, e2⟩
        · exact absurd t2 t1
        · rw [e1, e2]
theorem jm_bsa_me {σ0 σ : jw_H} (h : jx_me σ0 σ) (a b c t v : Int) : jm_bsa σ a b c t v ↔ jm_bsa σ0 a b c t v := by
  have e : jm_ct σ = jm_ct σ0 := funext fun i => jx_me_ct h i
  unfold jm_bsa jm_bsc
  rw [jm_gd3_me h, e, h 103 (by omega), h 135 (by omega)]

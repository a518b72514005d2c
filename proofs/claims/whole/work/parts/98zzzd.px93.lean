/-! ===== a sum: purely, and the class's ===== -/
/-- a sum goes on behind a term -/
noncomputable def jk_sg (b : Int → Int) (m q : Int) : Nat → Int × Int × (Int → Int) → Int × Int × (Int → Int)
  | 0, R => R
  | f + 1, R => if R.1 = 0 ∧ (jk_h b m R.2.1 = 43 ∨ jk_h b m R.2.1 = 45) then jk_sg b m q f (jk_trm b m q (if jk_h b m R.2.1 = 45 then -1 else 1) R.2.2 (R.2.1 + 1)) else R
noncomputable def jk_sm (b : Int → Int) (m q i : Int) : Int × Int × (Int → Int) := jk_sg b m q 300 (if jk_h b m i = 45 then jk_trm b m q (-1) (fun _ => 0) (i + 1) else jk_trm b m q 1 (fun _ => 0) i)
theorem jk_sg_no {b : Int → Int} {m q : Int} {R : Int × Int × (Int → Int)} (h : ¬ (R.1 = 0 ∧ (jk_h b m R.2.1 = 43 ∨ jk_h b m R.2.1 = 45))) : ∀ f, jk_sg b m q f R = R
  | 0 => rfl
  | f + 1 => if_neg h
theorem jk_sg_yes {b : Int → Int} {m q : Int} {R : Int × Int × (Int → Int)} {s : Int} (h0 : R.1 = 0) (h : (jk_h b m R.2.1 = 43 ∧ s = 1) ∨ (jk_h b m R.2.1 = 45 ∧ s = -1)) (f : Nat) : jk_sg b m q (f + 1) R = jk_sg b m q f (jk_trm b m q s R.2.2 (R.2.1 + 1)) := by
  have e : (if jk_h b m R.2.1 = 45 then (-1 : Int) else 1) = s := by
    rcases h with ⟨h1, h2⟩ | ⟨h1, h2⟩
    · rw [if_neg (by omega), h2]
    · rw [if_pos h1, h2]
  refine (if_pos ⟨h0, by omega⟩).trans ?_
  rw [e]
theorem jk_trm_le {b : Int → Int} {m q s : Int} {t : Int → Int} {i : Int} (h : (jk_trm b m q s t i).1 = 0) (i0 : 0 ≤ i) : (jk_trm b m q s t i).2.1 ≤ m := by
  obtain ⟨c, k, hc, c1, c3, k0, k1⟩ := jk_cf_ex (jk_h b m i)
  by_cases hl : jk_let (jk_h b m (i + k))
  · by_cases hq : jk_h b m (i + k) - 120 < q
    · by_cases hr : -3 ≤ t (jk_h b m (i + k) - 120) + s * c ∧ t (jk_h b m (i + k) - 120) + s * c ≤ 3
      · rw [jk_trm_0 hc hl hq hr]
        have : i + k < m := Classical.byContradiction (fun w => by
          rw [jk_h_out (by omega)] at hl
          unfold jk_let at hl
          omega)
        show i + k + 1 ≤ m
        omega
      · have := jk_trm_3 hc hl hq hr
        omega
    · have := jk_trm_7 (s := s) (t := t) hc hl hq
      omega
  · have := jk_trm_1 (q := q) (s := s) (t := t) hc hl
    omega
/-- what a good sum has -/
def jk_rok (m i : Int) (R : Int × Int × (Int → Int)) : Prop := R.1 = 0 → (i < R.2.1 ∧ R.2.1 ≤ m) ∧ ∀ j, 0 ≤ j → j < 3 → -3 ≤ R.2.2 j ∧ R.2.2 j ≤ 3
theorem jk_rok_trm {b : Int → Int} {m q s : Int} {t : Int → Int} {i : Int} (ht : ∀ j, 0 ≤ j → j < 3 → -3 ≤ t j ∧ t j ≤ 3) (i0 : 0 ≤ i) : jk_rok m i (jk_trm b m q s t i) := fun h => ⟨⟨(jk_trm_ok ht h i0).1, jk_trm_le h i0⟩, (jk_trm_ok ht h i0).2⟩
theorem jk_rok_sg {b : Int → Int} {m q i : Int} (i0 : 0 ≤ i) : ∀ (f : Nat) {R : Int × Int × (Int → Int)}, jk_rok m i R → jk_rok m i (jk_sg b m q f R)
  | 0, R, h => h
  | f + 1, R, h => by
    by_cases hc : R.1 = 0 ∧ (jk_h b m R.2.1 = 43 ∨ jk_h b m R.2.1 = 45)
    · have e : jk_sg b m q (f + 1) R = _ := if_pos hc
      rw [e]
      have hr := h hc.1
      refine jk_rok_sg i0 f (fun hT => ?_)
      have := jk_rok_trm hr.2 (by omega) hT
      exact ⟨by omega, this.2⟩
    · rw [jk_sg_no hc]
      exact h
theorem jk_rok_sm {b : Int → Int} {m q i : Int} (i0 : 0 ≤ i) : jk_rok m i (jk_sm b m q i) := by
  refine jk_rok_sg i0 300 ?_
  split
  · intro h
    have := jk_rok_trm (t := fun _ => 0) (fun _ _ _ => by omega) (by omega) h
    exact ⟨by omega, this.2⟩
  · exact jk_rok_trm (t := fun _ => 0) (fun _ _ _ => by omega) i0
section JKR
variable {n o : Nat} {b : Int → Int} {m : Int} {σ τ υ : jw_H} {w : Nat} {a s : Int} {R T : Int × Int × (Int → Int)}
theorem jk_R_ch (h : jk_R n o b m σ w a s R τ) (e : σ 34 2 = 0 → R = T) : jk_R n o b m σ w a s T τ := ⟨h.1, h.2.1, h.2.2.1, h.2.2.2.1, fun hz => by rw [← e hz]; exact h.2.2.2.2 hz⟩
theorem jk_R_tr (hD : jk_D o σ υ) (hf : ∀ c, c ≠ 34 → c ≠ w → υ c = σ c) (hr : ∀ j, j < a ∨ a + 2 < j → υ w j = σ w j) (h0 : σ 34 2 = 0 → υ 34 2 = 0) (h : jk_R n o b m υ w a s T τ) : jk_R n o b m σ w a s T τ := ⟨h.1, jk_D_tr hD h.2.1, fun c c1 c2 => (h.2.2.1 c c1 c2).trans (hf c c1 c2), fun j hj => (h.2.2.2.1 j hj).trans (hr j hj), fun hz => h.2.2.2.2 (h0 hz)⟩
end JKR
theorem jk_sum_loop {n : Nat} {σ : jw_H} {o : Nat} {b : Int → Int} {m : Int} {w L : Nat} (hw : 13 ≤ w ∧ (js_S n)[w]? = some (.inr (0, L))) (hwo : o < w ∧ w ≤ o + 5) {a s : Int} (ha : 0 ≤ a ∧ a + 2 < (L : Int) ∧ L ≤ 12) (hs0 : s = 1 ∨ s = -1) : ∀ (f : Nat) {R : Int × Int × (Int → Int)} {τ : jw_H} {x : Int}, jk_R n o b m σ w a s R τ → jk_rok m 0 R → (R.1 = 0 → m < R.2.1 + f) → jw_W (js_S n) 3 md_86 35 [some (.inr (.inr 33)), some (.inr (.inr w)), some (.inl a), some (.inl s), some (.inl x)] [] τ (fun r σ' => r = none ∧ jk_R n o b m σ w a s (jk_sg b m (σ o 0) f R) σ')
  | f, R, τ, x, hR, hok, hfu => by
    have hXt := hR.1
    have ht := hXt.2.2.1
    have em := hXt.2.2.2.1
    have h4 := hXt.2.2.2.2.1
    have h5 := hXt.2.2.2.2.2.1
    have h6 := hXt.2.2.2.2.2.2.1
    have hpo := hXt.1.1
    have hh0 := jk_X_h hXt h4.1
    have hN : ¬ (τ 34 0 < m) → jk_h b m (τ 34 0) = -1 := fun hh => jk_h_out (by omega)
    have stop : (τ 34 2 ≠ 0 ∨ ¬ (τ 34 0 < m) ∨ ¬ (jk_h b m (τ 34 0) = 43 ∨ jk_h b m (τ 34 0) = 45)) → jk_R n o b m σ w a s (jk_sg b m (σ o 0) f R) τ := by
      intro hc
      refine jk_R_ch hR (fun hz => ?_)
      obtain ⟨f1, f2⟩ := hR.2.2.2.2 hz
      refine (jk_sg_no (fun hh => ?_) f).symm
      have e0 := (f2 hh.1).1
      rw [← e0] at hh
      rcases hc with hc | hc | hc
      · omega
      · have := hN hc
        omega
      · exact hc hh.2
    have go : ∀ {υ τ' : jw_H} {s' x' : Int}, jk_E n o b m τ υ → υ 34 2 = 0 → τ 34 2 = 0 ∧ ((jk_h b m (τ 34 0) = 43 ∧ s' = 1) ∨ (jk_h b m (τ 34 0) = 45 ∧ s' = -1)) → jk_R n o b m υ w a s (jk_trm b m (σ o 0) s' R.2.2 (R.2.1 + 1)) τ' → jw_W (js_S n) 3 md_86 35 [some (.inr (.inr 33)), some (.inr (.inr w)), some (.inl a), some (.inl s), some (.inl x')] [] τ' (fun r σ' => r = none ∧ jk_R n o b m σ w a s (jk_sg b m (σ o 0) f R) σ') := by
      intro υ τ' s' x' hE hυ hc hT
      have hz3 : σ 34 2 = 0 := Classical.byContradiction (fun w => by have := hR.2.1.2.2.1 w; omega)
      obtain ⟨f1, f2⟩ := hR.2.2.2.2 hz3
      have hz1 : R.1 = 0 := by omega
      have e0 := (f2 hz1).1
      have hf2 := hfu hz1
      have ho := hok hz1
      match f, hf2 with
      | 0, hf2 => omega
      | f + 1, hf2 =>
        rw [jk_sg_yes hz1 (by rw [← e0]; exact hc.2) f]
        have hrk : jk_rok m (R.2.1 + 1) (jk_trm b m (σ o 0) s' R.2.2 (R.2.1 + 1)) := jk_rok_trm ho.2 (by omega)
        refine jk_sum_loop hw hwo ha hs0 f (jk_R_tr (jk_D_tr hR.2.1 hE.2.1) (fun c c1 c2 => (hE.2.2 c c1).trans (hR.2.2.1 c c1 c2)) (fun j hj => (congrFun (hE.2.2 w (by omega)) j).trans (hR.2.2.2.1 j hj)) (fun _ => hυ) hT) (fun h => ?_) (fun h => ?_)
        · have := hrk h
          exact ⟨by omega, this.2⟩
        · have := hrk h
          omega
    refine jw_W_n 1 (i' := 36) (ls' := [some (.inr (.inr 33)), some (.inr (.inr w)), some (.inl a), some (.inl s), some (.inl x)]) (st' := [.inr (.inr 33)]) rfl ?_
    refine jw_W_gf rfl rfl rfl ?_
    show jw_W (js_S n) _ md_86 37 [some (.inr (.inr 33)), some (.inr (.inr w)), some (.inl a), some (.inl s), some (.inl x)] [.inr (.inr 34)] τ _
    refine jw_W_gf rfl rfl rfl ?_
    show jw_W (js_S n) _ md_86 38 [some (.inr (.inr 33)), some (.inr (.inr w)), some (.inl a), some (.inl s), some (.inl x)] [.inl (τ 34 2)] τ _
    refine jw_W_if rfl (by unfold jw_rg; omega) (fun hc1 => ?_) (fun hc1 => ?_)
    · have hc1 : (τ 34 2) ≠ 0 := hc1
      refine jw_W_re rfl ?_
      exact ⟨rfl, stop (by omega)⟩
    · have hc1 : (τ 34 2) = 0 := Classical.not_not.mp hc1
      have hz2 : τ 34 2 = 0 := by omega
      have hz3 : σ 34 2 = 0 := Classical.byContradiction (fun w => by have := hR.2.1.2.2.1 w; omega)
      have hR1 := hR.2.2.2.2 hz3
      have hz1 : R.1 = 0 := by omega
      have hR0 := hR1.2 hz1
      refine jw_W_n 1 (i' := 40) (ls' := [some (.inr (.inr 33)), some (.inr (.inr w)), some (.inl a), some (.inl s), some (.inl x)]) (st' := [.inr (.inr 33)]) rfl ?_
      refine jw_W_gf rfl rfl rfl ?_
      show jw_W (js_S n) _ md_86 41 [some (.inr (.inr 33)), some (.inr (.inr w)), some (.inl a), some (.inl s), some (.inl x)] [.inr (.inr 34)] τ _
      refine jw_W_gf rfl rfl rfl ?_
      show jw_W (js_S n) _ md_86 42 [some (.inr (.inr 33)), some (.inr (.inr w)), some (.inl a), some (.inl s), some (.inl x)] [.inl (τ 34 0)] τ _
      refine jw_W_n 1 (i' := 43) (ls' := [some (.inr (.inr 33)), some (.inr (.inr w)), some (.inl a), some (.inl s), some (.inl x)]) (st' := [.inr (.inr 33), .inl (τ 34 0)]) rfl ?_
      refine jw_W_gf rfl rfl rfl ?_
      show jw_W (js_S n) _ md_86 44 [some (.inr (.inr 33)), some (.inr (.inr w)), some (.inl a), some (.inl s), some (.inl x)] [.inr (.inr 34), .inl (τ 34 0)] τ _
      refine jw_W_gf rfl rfl rfl ?_
      show jw_W (js_S n) _ md_86 45 [some (.inr (.inr 33)), some (.inr (.inr w)), some (.inl a), some (.inl s), some (.inl x)] [.inl (τ 34 1), .inl (τ 34 0)] τ _
      refine jw_W_ic rfl (by unfold jw_rg; omega) (by unfold jw_rg; omega) (fun hc2 => ?_) (fun hc2 => ?_)
      · have hc2 : (τ 34 0) ≥ (τ 34 1) := hc2
        refine jw_W_re rfl ?_
        exact ⟨rfl, stop (by omega)⟩
      · have hc2 : ¬ ((τ 34 0) ≥ (τ 34 1)) := hc2
        refine jw_W_n 1 (i' := 47) (ls' := [some (.inr (.inr 33)), some (.inr (.inr w)), some (.inl a), some (.inl s), some (.inl x)]) (st' := [.inr (.inr 33)]) rfl ?_
        refine jw_W_gf rfl rfl rfl ?_
        show jw_W (js_S n) _ md_86 48 [some (.inr (.inr 33)), some (.inr (.inr w)), some (.inl a), some (.inl s), some (.inl x)] [.inr (.inr 34)] τ _
        refine jw_W_call (as := [.inr (.inr 34)]) (rest := []) rfl rfl rfl rfl (Nat.le_of_ble_eq_true rfl) (.inr rfl) (jk_hereX hXt) (by omega) ?_ rfl
        rintro r1 σz ⟨rfl, hs⟩
        rw [hs]
        show jw_W (js_S n) _ md_86 49 [some (.inr (.inr 33)), some (.inr (.inr w)), some (.inl a), some (.inl s), some (.inl x)] [.inl (jk_h b m (τ 34 0))] τ _
        refine jw_W_n 1 (i' := 50) (ls' := [some (.inr (.inr 33)), some (.inr (.inr w)), some (.inl a), some (.inl s), some (.inl x)]) (st' := [.inl 43, .inl (jk_h b m (τ 34 0))]) rfl ?_
        refine jw_W_ic rfl (by unfold jw_rg; omega) (by unfold jw_rg; omega) (fun hc3 => ?_) (fun hc3 => ?_)
        · have hc3 : (jk_h b m (τ 34 0)) = 43 := hc3
          refine jw_W_n 1 (i' := 57) (ls' := [some (.inr (.inr 33)), some (.inr (.inr w)), some (.inl a), some (.inl s), some (.inl x)]) (st' := [.inr (.inr 33)]) rfl ?_
          refine jw_W_gf rfl rfl rfl ?_
          show jw_W (js_S n) _ md_86 58 [some (.inr (.inr 33)), some (.inr (.inr w)), some (.inl a), some (.inl s), some (.inl x)] [.inr (.inr 34)] τ _
          refine jw_W_call (as := [.inr (.inr 34)]) (rest := []) rfl rfl rfl rfl (Nat.le_of_ble_eq_true rfl) (.inr rfl) (jk_hereX hXt) (by omega) ?_ rfl
          rintro r1 σz ⟨rfl, hs⟩
          rw [hs]
          show jw_W (js_S n) _ md_86 59 [some (.inr (.inr 33)), some (.inr (.inr w)), some (.inl a), some (.inl s), some (.inl x)] [.inl (jk_h b m (τ 34 0))] τ _
          refine jw_W_n 1 (i' := 60) (ls' := [some (.inr (.inr 33)), some (.inr (.inr w)), some (.inl a), some (.inl s), some (.inl x)]) (st' := [.inl 43, .inl (jk_h b m (τ 34 0))]) rfl ?_
          refine jw_W_ic rfl (by unfold jw_rg; omega) (by unfold jw_rg; omega) (fun hc4 => ?_) (fun hc4 => ?_)
          · have hc4 : (jk_h b m (τ 34 0)) ≠ 43 := hc4
            refine jw_W_n 4 (i' := 67) (ls' := [some (.inr (.inr 33)), some (.inr (.inr w)), some (.inl a), some (.inl s), some (.inl ((-s)))]) (st' := [.inr (.inr 33)]) rfl ?_
            refine jw_W_gf rfl rfl rfl ?_
            show jw_W (js_S n) _ md_86 68 [some (.inr (.inr 33)), some (.inr (.inr w)), some (.inl a), some (.inl s), some (.inl ((-s)))] [.inr (.inr 34)] τ _
            refine jw_W_n 1 (i' := 69) (ls' := [some (.inr (.inr 33)), some (.inr (.inr w)), some (.inl a), some (.inl s), some (.inl ((-s)))]) (st' := [.inr (.inr 34), .inr (.inr 34)]) rfl ?_
            refine jw_W_gf rfl rfl rfl ?_
            show jw_W (js_S n) _ md_86 70 [some (.inr (.inr 33)), some (.inr (.inr w)), some (.inl a), some (.inl s), some (.inl ((-s)))] [.inl (τ 34 0), .inr (.inr 34)] τ _
            refine jw_W_n 2 (i' := 72) (ls' := [some (.inr (.inr 33)), some (.inr (.inr w)), some (.inl a), some (.inl s), some (.inl ((-s)))]) (st' := [.inl (τ 34 0 + 1), .inr (.inr 34)]) rfl ?_
            refine jw_W_pf (a := τ 34 0 + 1) rfl (by omega) rfl rfl rfl rfl rfl ?_
            obtain ⟨σa, hsa⟩ : ∃ s, s = jw_up τ 34 0 (τ 34 0 + 1) := ⟨_, rfl⟩
            show jw_W (js_S n) _ _ _ _ _ (jw_up τ 34 0 (τ 34 0 + 1)) _
            rw [← hsa]
            have hEa : jk_E n o b m τ σa := by rw [hsa]; exact jk_E_at hXt (hh0.2.2 (by omega))
            have ea0 : σa 34 0 = R.2.1 + 1 := by rw [hsa, jw_up_eq, hR0.1]
            have ea2 : σa 34 2 = 0 := by rw [hsa, jw_up_ne _ (by omega)]; assumption
            have eao : σa o 0 = σ o 0 := by rw [hsa, jw_up_out _ _ _ (by omega), hR.2.2.1 o (by omega) (by omega)]
            have eaw : σa w = τ w := hEa.2.2 w (by omega)
            refine jw_W_n 4 (i' := 77) (ls' := [some (.inr (.inr 33)), some (.inr (.inr w)), some (.inl a), some (.inl s), some (.inl ((-s)))]) (st' := [.inl ((-s)), .inl a, .inr (.inr w), .inr (.inr 33)]) rfl ?_
            refine jw_W_call (as := [.inr (.inr 33), .inr (.inr w), .inl a, .inl ((-s))]) (rest := []) rfl rfl rfl rfl (Nat.le_of_ble_eq_true rfl) (.inr rfl) (jk_readTerm (s := s) (s' := (-1)) (t := R.2.2) hEa.1 hw hwo ha hs0 (by omega) (by omega) (fun j j0 j1 => ⟨by rw [eaw]; exact hR0.2 j j0 j1, (hok hz1).2 j j0 j1⟩)) (by omega) ?_ rfl
            rintro r1 σz ⟨rfl, hT⟩
            rename jw_H => σu
            rw [eao, ea0] at hT
            show jw_W (js_S n) _ md_86 78 [some (.inr (.inr 33)), some (.inr (.inr w)), some (.inl a), some (.inl s), some (.inl ((-s)))] [] σu _
            refine jw_W_n 1 (i' := 35) (ls' := [some (.inr (.inr 33)), some (.inr (.inr w)), some (.inl a), some (.inl s), some (.inl ((-s)))]) (st' := []) rfl ?_
            exact go (s' := (-1)) hEa ea2 (by omega) hT
          · have hc4 : (jk_h b m (τ 34 0)) = 43 := Classical.not_not.mp hc4
            refine jw_W_n 4 (i' := 67) (ls' := [some (.inr (.inr 33)), some (.inr (.inr w)), some (.inl a), some (.inl s), some (.inl s)]) (st' := [.inr (.inr 33)]) rfl ?_
            refine jw_W_gf rfl rfl rfl ?_
            show jw_W (js_S n) _ md_86 68 [some (.inr (.inr 33)), some (.inr (.inr w)), some (.inl a), some (.inl s), some (.inl s)] [.inr (.inr 34)] τ _
            refine jw_W_n 1 (i' := 69) (ls' := [some (.inr (.inr 33)), some (.inr (.inr w)), some (.inl a), some (.inl s), some (.inl s)]) (st' := [.inr (.inr 34), .inr (.inr 34)]) rfl ?_
            refine jw_W_gf rfl rfl rfl ?_
            show jw_W (js_S n) _ md_86 70 [some (.inr (.inr 33)), some (.inr (.inr w)), some (.inl a), some (.inl s), some (.inl s)] [.inl (τ 34 0), .inr (.inr 34)] τ _
            refine jw_W_n 2 (i' := 72) (ls' := [some (.inr (.inr 33)), some (.inr (.inr w)), some (.inl a), some (.inl s), some (.inl s)]) (st' := [.inl (τ 34 0 + 1), .inr (.inr 34)]) rfl ?_
            refine jw_W_pf (a := τ 34 0 + 1) rfl (by omega) rfl rfl rfl rfl rfl ?_
            obtain ⟨σa, hsa⟩ : ∃ s, s = jw_up τ 34 0 (τ 34 0 + 1) := ⟨_, rfl⟩
            show jw_W (js_S n) _ _ _ _ _ (jw_up τ 34 0 (τ 34 0 + 1)) _
            rw [← hsa]
            have hEa : jk_E n o b m τ σa := by rw [hsa]; exact jk_E_at hXt (hh0.2.2 (by omega))
            have ea0 : σa 34 0 = R.2.1 + 1 := by rw [hsa, jw_up_eq, hR0.1]
            have ea2 : σa 34 2 = 0 := by rw [hsa, jw_up_ne _ (by omega)]; assumption
            have eao : σa o 0 = σ o 0 := by rw [hsa, jw_up_out _ _ _ (by omega), hR.2.2.1 o (by omega) (by omega)]
            have eaw : σa w = τ w := hEa.2.2 w (by omega)
            refine jw_W_n 4 (i' := 77) (ls' := [some (.inr (.inr 33)), some (.inr (.inr w)), some (.inl a), some (.inl s), some (.inl s)]) (st' := [.inl s, .inl a, .inr (.inr w), .inr (.inr 33)]) rfl ?_
            refine jw_W_call (as := [.inr (.inr 33), .inr (.inr w), .inl a, .inl s]) (rest := []) rfl rfl rfl rfl (Nat.le_of_ble_eq_true rfl) (.inr rfl) (jk_readTerm (s := s) (s' := 1) (t := R.2.2) hEa.1 hw hwo ha hs0 (by omega) (by omega) (fun j j0 j1 => ⟨by rw [eaw]; exact hR0.2 j j0 j1, (hok hz1).2 j j0 j1⟩)) (by omega) ?_ rfl
            rintro r1 σz ⟨rfl, hT⟩
            rename jw_H => σt
            rw [eao, ea0] at hT
            show jw_W (js_S n) _ md_86 78 [some (.inr (.inr 33)), some (.inr (.inr w)), some (.inl a), some (.inl s), some (.inl s)] [] σt _
            refine jw_W_n 1 (i' := 35) (ls' := [some (.inr (.inr 33)), some (.inr (.inr w)), some (.inl a), some (.inl s), some (.inl s)]) (st' := []) rfl ?_
            exact go (s' := 1) hEa ea2 (by omega) hT
        · have hc3 : ¬ ((jk_h b m (τ 34 0)) = 43) := hc3
          refine jw_W_n 1 (i' := 52) (ls' := [some (.inr (.inr 33)), some (.inr (.inr w)), some (.inl a), some (.inl s), some (.inl x)]) (st' := [.inr (.inr 33)]) rfl ?_
          refine jw_W_gf rfl rfl rfl ?_
          show jw_W (js_S n) _ md_86 53 [some (.inr (.inr 33)), some (.inr (.inr w)), some (.inl a), some (.inl s), some (.inl x)] [.inr (.inr 34)] τ _
          refine jw_W_call (as := [.inr (.inr 34)]) (rest := []) rfl rfl rfl rfl (Nat.le_of_ble_eq_true rfl) (.inr rfl) (jk_hereX hXt) (by omega) ?_ rfl
          rintro r1 σz ⟨rfl, hs⟩
          rw [hs]
          show jw_W (js_S n) _ md_86 54 [some (.inr (.inr 33)), some (.inr (.inr w)), some (.inl a), some (.inl s), some (.inl x)] [.inl (jk_h b m (τ 34 0))] τ _
          refine jw_W_n 1 (i' := 55) (ls' := [some (.inr (.inr 33)), some (.inr (.inr w)), some (.inl a), some (.inl s), some (.inl x)]) (st' := [.inl 45, .inl (jk_h b m (τ 34 0))]) rfl ?_
          refine jw_W_ic rfl (by unfold jw_rg; omega) (by unfold jw_rg; omega) (fun hc5 => ?_) (fun hc5 => ?_)
          · have hc5 : (jk_h b m (τ 34 0)) ≠ 45 := hc5
            refine jw_W_re rfl ?_
            exact ⟨rfl, stop (by omega)⟩
          · have hc5 : (jk_h b m (τ 34 0)) = 45 := Classical.not_not.mp hc5
            refine jw_W_n 1 (i' := 57) (ls' := [some (.inr (.inr 33)), some (.inr (.inr w)), some (.inl a), some (.inl s), some (.inl x)]) (st' := [.inr (.inr 33)]) rfl ?_
            refine jw_W_gf rfl rfl rfl ?_
            show jw_W (js_S n) _ md_86 58 [some (.inr (.inr 33)), some (.inr (.inr w)), some (.inl a), some (.inl s), some (.inl x)] [.inr (.inr 34)] τ _
            refine jw_W_call (as := [.inr (.inr 34)]) (rest := []) rfl rfl rfl rfl (Nat.le_of_ble_eq_true rfl) (.inr rfl) (jk_hereX hXt) (by omega) ?_ rfl
            rintro r1 σz ⟨rfl, hs⟩
            rw [hs]
            show jw_W (js_S n) _ md_86 59 [some (.inr (.inr 33)), some (.inr (.inr w)), some (.inl a), some (.inl s), some (.inl x)] [.inl (jk_h b m (τ 34 0))] τ _
            refine jw_W_n 1 (i' := 60) (ls' := [some (.inr (.inr 33)), some (.inr (.inr w)), some (.inl a), some (.inl s), some (.inl x)]) (st' := [.inl 43, .inl (jk_h b m (τ 34 0))]) rfl ?_
            refine jw_W_ic rfl (by unfold jw_rg; omega) (by unfold jw_rg; omega) (fun hc6 => ?_) (fun hc6 => ?_)
            · have hc6 : (jk_h b m (τ 34 0)) ≠ 43 := hc6
              refine jw_W_n 4 (i' := 67) (ls' := [some (.inr (.inr 33)), some (.inr (.inr w)), some (.inl a), some (.inl s), some (.inl ((-s)))]) (st' := [.inr (.inr 33)]) rfl ?_
              refine jw_W_gf rfl rfl rfl ?_
              show jw_W (js_S n) _ md_86 68 [some (.inr (.inr 33)), some (.inr (.inr w)), some (.inl a), some (.inl s), some (.inl ((-s)))] [.inr (.inr 34)] τ _
              refine jw_W_n 1 (i' := 69) (ls' := [some (.inr (.inr 33)), some (.inr (.inr w)), some (.inl a), some (.inl s), some (.inl ((-s)))]) (st' := [.inr (.inr 34), .inr (.inr 34)]) rfl ?_
              refine jw_W_gf rfl rfl rfl ?_
              show jw_W (js_S n) _ md_86 70 [some (.inr (.inr 33)), some (.inr (.inr w)), some (.inl a), some (.inl s), some (.inl ((-s)))] [.inl (τ 34 0), .inr (.inr 34)] τ _
              refine jw_W_n 2 (i' := 72) (ls' := [some (.inr (.inr 33)), some (.inr (.inr w)), some (.inl a), some (.inl s), some (.inl ((-s)))]) (st' := [.inl (τ 34 0 + 1), .inr (.inr 34)]) rfl ?_
              refine jw_W_pf (a := τ 34 0 + 1) rfl (by omega) rfl rfl rfl rfl rfl ?_
              obtain ⟨σa, hsa⟩ : ∃ s, s = jw_up τ 34 0 (τ 34 0 + 1) := ⟨_, rfl⟩
              show jw_W (js_S n) _ _ _ _ _ (jw_up τ 34 0 (τ 34 0 + 1)) _
              rw [← hsa]
              have hEa : jk_E n o b m τ σa := by rw [hsa]; exact jk_E_at hXt (hh0.2.2 (by omega))
              have ea0 : σa 34 0 = R.2.1 + 1 := by rw [hsa, jw_up_eq, hR0.1]
              have ea2 : σa 34 2 = 0 := by rw [hsa, jw_up_ne _ (by omega)]; assumption
              have eao : σa o 0 = σ o 0 := by rw [hsa, jw_up_out _ _ _ (by omega), hR.2.2.1 o (by omega) (by omega)]
              have eaw : σa w = τ w := hEa.2.2 w (by omega)
              refine jw_W_n 4 (i' := 77) (ls' := [some (.inr (.inr 33)), some (.inr (.inr w)), some (.inl a), some (.inl s), some (.inl ((-s)))]) (st' := [.inl ((-s)), .inl a, .inr (.inr w), .inr (.inr 33)]) rfl ?_
              refine jw_W_call (as := [.inr (.inr 33), .inr (.inr w), .inl a, .inl ((-s))]) (rest := []) rfl rfl rfl rfl (Nat.le_of_ble_eq_true rfl) (.inr rfl) (jk_readTerm (s := s) (s' := (-1)) (t := R.2.2) hEa.1 hw hwo ha hs0 (by omega) (by omega) (fun j j0 j1 => ⟨by rw [eaw]; exact hR0.2 j j0 j1, (hok hz1).2 j j0 j1⟩)) (by omega) ?_ rfl
              rintro r1 σz ⟨rfl, hT⟩
              rename jw_H => σu
              rw [eao, ea0] at hT
              show jw_W (js_S n) _ md_86 78 [some (.inr (.inr 33)), some (.inr (.inr w)), some (.inl a), some (.inl s), some (.inl ((-s)))] [] σu _
              refine jw_W_n 1 (i' := 35) (ls' := [some (.inr (.inr 33)), some (.inr (.inr w)), some (.inl a), some (.inl s), some (.inl ((-s)))]) (st' := []) rfl ?_
              exact go (s' := (-1)) hEa ea2 (by omega) hT
            · have hc6 : (jk_h b m (τ 34 0)) = 43 := Classical.not_not.mp hc6
              refine jw_W_n 4 (i' := 67) (ls' := [some (.inr (.inr 33)), some (.inr (.inr w)), some (.inl a), some (.inl s), some (.inl s)]) (st' := [.inr (.inr 33)]) rfl ?_
              refine jw_W_gf rfl rfl rfl ?_
              show jw_W (js_S n) _ md_86 68 [some (.inr (.inr 33)), some (.inr (.inr w)), some (.inl a), some (.inl s), some (.inl s)] [.inr (.inr 34)] τ _
              refine jw_W_n 1 (i' := 69) (ls' := [some (.inr (.inr 33)), some (.inr (.inr w)), some (.inl a), some (.inl s), some (.inl s)]) (st' := [.inr (.inr 34), .inr (.inr 34)]) rfl ?_
              refine jw_W_gf rfl rfl rfl ?_
              show jw_W (js_S n) _ md_86 70 [some (.inr (.inr 33)), some (.inr (.inr w)), some (.inl a), some (.inl s), some (.inl s)] [.inl (τ 34 0), .inr (.inr 34)] τ _
              refine jw_W_n 2 (i' := 72) (ls' := [some (.inr (.inr 33)), some (.inr (.inr w)), some (.inl a), some (.inl s), some (.inl s)]) (st' := [.inl (τ 34 0 + 1), .inr (.inr 34)]) rfl ?_
              refine jw_W_pf (a := τ 34 0 + 1) rfl (by omega) rfl rfl rfl rfl rfl ?_
              obtain ⟨σa, hsa⟩ : ∃ s, s = jw_up τ 34 0 (τ 34 0 + 1) := ⟨_, rfl⟩
              show jw_W (js_S n) _ _ _ _ _ (jw_up τ 34 0 (τ 34 0 + 1)) _
              rw [← hsa]
              have hEa : jk_E n o b m τ σa := by rw [hsa]; exact jk_E_at hXt (hh0.2.2 (by omega))
              have ea0 : σa 34 0 = R.2.1 + 1 := by rw [hsa, jw_up_eq, hR0.1]
              have ea2 : σa 34 2 = 0 := by rw [hsa, jw_up_ne _ (by omega)]; assumption
              have eao : σa o 0 = σ o 0 := by rw [hsa, jw_up_out _ _ _ (by omega), hR.2.2.1 o (by omega) (by omega)]
              have eaw : σa w = τ w := hEa.2.2 w (by omega)
              refine jw_W_n 4 (i' := 77) (ls' := [some (.inr (.inr 33)), some (.inr (.inr w)), some (.inl a), some (.inl s), some (.inl s)]) (st' := [.inl s, .inl a, .inr (.inr w), .inr (.inr 33)]) rfl ?_
              refine jw_W_call (as := [.inr (.inr 33), .inr (.inr w), .inl a, .inl s]) (rest := []) rfl rfl rfl rfl (Nat.le_of_ble_eq_true rfl) (.inr rfl) (jk_readTerm (s := s) (s' := 1) (t := R.2.2) hEa.1 hw hwo ha hs0 (by omega) (by omega) (fun j j0 j1 => ⟨by rw [eaw]; exact hR0.2 j j0 j1, (hok hz1).2 j j0 j1⟩)) (by omega) ?_ rfl
              rintro r1 σz ⟨rfl, hT⟩
              rename jw_H => σt
              rw [eao, ea0] at hT
              show jw_W (js_S n) _ md_86 78 [some (.inr (.inr 33)), some (.inr (.inr w)), some (.inl a), some (.inl s), some (.inl s)] [] σt _
              refine jw_W_n 1 (i' := 35) (ls' := [some (.inr (.inr 33)), some (.inr (.inr w)), some (.inl a), some (.inl s), some (.inl s)]) (st' := []) rfl ?_
              exact go (s' := 1) hEa ea2 (by omega) hT
theorem jk_readSum {n : Nat} {σ : jw_H} {o : Nat} {b : Int → Int} {m : Int} {w L : Nat} (hw : 13 ≤ w ∧ (js_S n)[w]? = some (.inr (0, L))) (hwo : o < w ∧ w ≤ o + 5) {a s : Int} (ha : 0 ≤ a ∧ a + 2 < (L : Int) ∧ L ≤ 12) (hs0 : s = 1 ∨ s = -1) (hX : jk_X n o b m σ)  : jw_T (js_S n) 4 86 [.inr (.inr 33), .inr (.inr w), .inl a, .inl s] σ (fun r σ' => r = none ∧ jk_R n o b m σ w a s (jk_sm b m (σ o 0) (σ 34 0)) σ') := by
  refine jw_T_of (D := 3) (M := mm_86) rfl (Nat.le_of_ble_eq_true rfl) (ls0 := [some (.inr (.inr 33)), some (.inr (.inr w)), some (.inl a), some (.inl s), none]) rfl ?_ (by rintro _ _ ⟨rfl, -⟩; rfl)
  have h4 := hX.2.2.2.2.1
  have h5 := hX.2.2.2.2.2.1
  have hpo := hX.1.1
  have hh0 := jk_X_h hX h4.1
  refine jw_W_n 4 (i' := 4) (ls' := [some (.inr (.inr 33)), some (.inr (.inr w)), some (.inl a), some (.inl s), some (.inl 0)]) (st' := [.inl 3, .inl 0]) rfl ?_
  refine jw_W_ic rfl (by unfold jw_rg; omega) (by unfold jw_rg; omega) (fun hc1 => ?_) (fun hc1 => ?_)
  · exact absurd hc1 (show ¬ ((0 : Int) ≥ 3) by omega)
  · clear hc1
    refine jw_W_n 5 (i' := 10) (ls' := [some (.inr (.inr 33)), some (.inr (.inr w)), some (.inl a), some (.inl s), some (.inl 0)]) (st' := [.inl 0, .inl (a + 0), .inr (.inr w)]) rfl ?_
    refine jw_W_is rfl (by omega) hw.2 (by omega) (by omega) (by omega) ?_
    refine jw_W_n 4 (i' := 4) (ls' := [some (.inr (.inr 33)), some (.inr (.inr w)), some (.inl a), some (.inl s), some (.inl 1)]) (st' := [.inl 3, .inl 1]) rfl ?_
    refine jw_W_ic rfl (by unfold jw_rg; omega) (by unfold jw_rg; omega) (fun hc2 => ?_) (fun hc2 => ?_)
    · exact absurd hc2 (show ¬ ((1 : Int) ≥ 3) by omega)
    · clear hc2
      refine jw_W_n 5 (i' := 10) (ls' := [some (.inr (.inr 33)), some (.inr (.inr w)), some (.inl a), some (.inl s), some (.inl 1)]) (st' := [.inl 0, .inl (a + 1), .inr (.inr w)]) rfl ?_
      refine jw_W_is rfl (by omega) hw.2 (by omega) (by omega) (by omega) ?_
      refine jw_W_n 4 (i' := 4) (ls' := [some (.inr (.inr 33)), some (.inr (.inr w)), some (.inl a), some (.inl s), some (.inl 2)]) (st' := [.inl 3, .inl 2]) rfl ?_
      refine jw_W_ic rfl (by unfold jw_rg; omega) (by unfold jw_rg; omega) (fun hc3 => ?_) (fun hc3 => ?_)
      · exact absurd hc3 (show ¬ ((2 : Int) ≥ 3) by omega)
      · clear hc3
        refine jw_W_n 5 (i' := 10) (ls' := [some (.inr (.inr 33)), some (.inr (.inr w)), some (.inl a), some (.inl s), some (.inl 2)]) (st' := [.inl 0, .inl (a + 2), .inr (.inr w)]) rfl ?_
        refine jw_W_is rfl (by omega) hw.2 (by omega) (by omega) (by omega) ?_
        refine jw_W_n 4 (i' := 4) (ls' := [some (.inr (.inr 33)), some (.inr (.inr w)), some (.inl a), some (.inl s), some (.inl 3)]) (st' := [.inl 3, .inl 3]) rfl ?_
        refine jw_W_ic rfl (by unfold jw_rg; omega) (by unfold jw_rg; omega) (fun hc4 => ?_) (fun hc4 => ?_)
        · clear hc4
          obtain ⟨σ0, hs0'⟩ : ∃ s, s = jw_up (jw_up (jw_up σ w (a + 0) 0) w (a + 1) 0) w (a + 2) 0 := ⟨_, rfl⟩
          show jw_W (js_S n) _ _ _ _ _ (jw_up (jw_up (jw_up σ w (a + 0) 0) w (a + 1) 0) w (a + 2) 0) _
          rw [← hs0']
          have k1 := jk_XD_row hX hwo (a + 0) 0
          have k2 := jk_XD_row k1.1 hwo (a + 1) 0
          have k3 := jk_XD_row k2.1 hwo (a + 2) 0
          rw [← hs0'] at k3
          have hX0 := k3.1
          have hD0 := jk_D_tr (jk_D_tr k1.2 k2.2) k3.2
          have e0c : ∀ c, c ≠ w → σ0 c = σ c := fun c hc => by rw [hs0', jw_up_out _ _ _ hc, jw_up_out _ _ _ hc, jw_up_out _ _ _ hc]
          have e00 : σ0 34 0 = σ 34 0 := by rw [e0c 34 (by omega)]
          have e02 : σ0 34 2 = σ 34 2 := by rw [e0c 34 (by omega)]
          have e0o : σ0 o 0 = σ o 0 := by rw [e0c o (by omega)]
          have e0r : ∀ j, 0 ≤ j → j < 3 → σ0 w (a + j) = 0 := by
            intro j j0 j1
            rw [hs0']
            rcases (show j = 0 ∨ j = 1 ∨ j = 2 by omega) with rfl | rfl | rfl
            · rw [jw_up_ne _ (by omega), jw_up_ne _ (by omega), jw_up_eq]
            · rw [jw_up_ne _ (by omega), jw_up_eq]
            · rw [jw_up_eq]
          have e0x : ∀ j, j < a ∨ a + 2 < j → σ0 w j = σ w j := fun j hj => by rw [hs0', jw_up_ne _ (by omega), jw_up_ne _ (by omega), jw_up_ne _ (by omega)]
          refine jw_W_n 3 (i' := 16) (ls' := [some (.inr (.inr 33)), some (.inr (.inr w)), some (.inl a), some (.inl s), some (.inl s)]) (st' := [.inr (.inr 33)]) rfl ?_
          refine jw_W_gf rfl rfl rfl ?_
          show jw_W (js_S n) _ md_86 17 [some (.inr (.inr 33)), some (.inr (.inr w)), some (.inl a), some (.inl s), some (.inl s)] [.inr (.inr 34)] σ0 _
          refine jw_W_call (as := [.inr (.inr 34)]) (rest := []) rfl rfl rfl rfl (Nat.le_of_ble_eq_true rfl) (.inr rfl) (jk_hereX hX0) (by omega) ?_ rfl
          rintro r1 σz ⟨rfl, hs⟩
          rw [hs]
          rw [e00]
          show jw_W (js_S n) _ md_86 18 [some (.inr (.inr 33)), some (.inr (.inr w)), some (.inl a), some (.inl s), some (.inl s)] [.inl (jk_h b m (σ 34 0))] σ0 _
          refine jw_W_n 1 (i' := 19) (ls' := [some (.inr (.inr 33)), some (.inr (.inr w)), some (.inl a), some (.inl s), some (.inl s)]) (st' := [.inl 45, .inl (jk_h b m (σ 34 0))]) rfl ?_
          refine jw_W_ic rfl (by unfold jw_rg; omega) (by unfold jw_rg; omega) (fun hc5 => ?_) (fun hc5 => ?_)
          · have hc5 : (jk_h b m (σ 34 0)) ≠ 45 := hc5
            refine jw_W_n 4 (i' := 34) (ls' := [some (.inr (.inr 33)), some (.inr (.inr w)), some (.inl a), some (.inl s), some (.inl s)]) (st' := [.inl s, .inl a, .inr (.inr w), .inr (.inr 33)]) rfl ?_
            refine jw_W_call (as := [.inr (.inr 33), .inr (.inr w), .inl a, .inl s]) (rest := []) rfl rfl rfl rfl (Nat.le_of_ble_eq_true rfl) (.inr rfl) (jk_readTerm (s := s) (s' := 1) (t := fun _ => 0) hX0 hw hwo ha hs0 (by omega) (by omega) (fun j j0 j1 => ⟨by rw [e0r j j0 j1, Int.mul_zero], by omega, by omega⟩)) (by omega) ?_ rfl
            rintro r1 σz ⟨rfl, hT⟩
            rename jw_H => σu
            rw [e0o, e00] at hT
            have hT2 := jk_R_tr hD0 (fun c c1 c2 => e0c c c2) (fun j hj => e0x j hj) (fun hz => e02.trans hz) hT
            show jw_W (js_S n) _ md_86 35 [some (.inr (.inr 33)), some (.inr (.inr w)), some (.inl a), some (.inl s), some (.inl s)] [] σu _
            rw [show jk_sm b m (σ o 0) (σ 34 0) = jk_sg b m (σ o 0) 300 (jk_trm b m (σ o 0) 1 (fun _ => 0) (σ 34 0)) from by unfold jk_sm; rw [if_neg (by assumption)]]
            have hrk : jk_rok m (σ 34 0) (jk_trm b m (σ o 0) 1 (fun _ => 0) (σ 34 0)) := jk_rok_trm (fun _ _ _ => by omega) (by omega)
            exact jk_sum_loop hw hwo ha hs0 300 hT2 (fun h => ⟨by have := hrk h; omega, (hrk h).2⟩) (fun h => by have := hrk h; omega)
          · have hc5 : (jk_h b m (σ 34 0)) = 45 := Classical.not_not.mp hc5
            refine jw_W_n 4 (i' := 24) (ls' := [some (.inr (.inr 33)), some (.inr (.inr w)), some (.inl a), some (.inl s), some (.inl ((-s)))]) (st' := [.inr (.inr 33)]) rfl ?_
            refine jw_W_gf rfl rfl rfl ?_
            show jw_W (js_S n) _ md_86 25 [some (.inr (.inr 33)), some (.inr (.inr w)), some (.inl a), some (.inl s), some (.inl ((-s)))] [.inr (.inr 34)] σ0 _
            refine jw_W_n 1 (i' := 26) (ls' := [some (.inr (.inr 33)), some (.inr (.inr w)), some (.inl a), some (.inl s), some (.inl ((-s)))]) (st' := [.inr (.inr 34), .inr (.inr 34)]) rfl ?_
            refine jw_W_gf rfl rfl rfl ?_
            show jw_W (js_S n) _ md_86 27 [some (.inr (.inr 33)), some (.inr (.inr w)), some (.inl a), some (.inl s), some (.inl ((-s)))] [.inl (σ0 34 0), .inr (.inr 34)] σ0 _
            refine jw_W_n 2 (i' := 29) (ls' := [some (.inr (.inr 33)), some (.inr (.inr w)), some (.inl a), some (.inl s), some (.inl ((-s)))]) (st' := [.inl (σ0 34 0 + 1), .inr (.inr 34)]) rfl ?_
            refine jw_W_pf (a := σ0 34 0 + 1) rfl (by omega) rfl rfl rfl rfl rfl ?_
            obtain ⟨σa, hsa⟩ : ∃ s, s = jw_up σ0 34 0 (σ0 34 0 + 1) := ⟨_, rfl⟩
            show jw_W (js_S n) _ _ _ _ _ (jw_up σ0 34 0 (σ0 34 0 + 1)) _
            rw [← hsa]
            have hEa : jk_E n o b m σ0 σa := by rw [hsa]; exact jk_E_at hX0 (by rw [e00]; exact hh0.2.2 (by omega))
            have ea0 : σa 34 0 = σ 34 0 + 1 := by rw [hsa, jw_up_eq, e00]
            have ea2 : σa 34 2 = σ 34 2 := by rw [hsa, jw_up_ne _ (by omega)]; exact e02
            have eao : σa o 0 = σ o 0 := by rw [hsa, jw_up_out _ _ _ (by omega)]; exact e0o
            have eaw : σa w = σ0 w := hEa.2.2 w (by omega)
            refine jw_W_n 4 (i' := 34) (ls' := [some (.inr (.inr 33)), some (.inr (.inr w)), some (.inl a), some (.inl s), some (.inl ((-s)))]) (st' := [.inl ((-s)), .inl a, .inr (.inr w), .inr (.inr 33)]) rfl ?_
            refine jw_W_call (as := [.inr (.inr 33), .inr (.inr w), .inl a, .inl ((-s))]) (rest := []) rfl rfl rfl rfl (Nat.le_of_ble_eq_true rfl) (.inr rfl) (jk_readTerm (s := s) (s' := -1) (t := fun _ => 0) hEa.1 hw hwo ha hs0 (by omega) (by omega) (fun j j0 j1 => ⟨by rw [eaw, e0r j j0 j1, Int.mul_zero], by omega, by omega⟩)) (by omega) ?_ rfl
            rintro r1 σz ⟨rfl, hT⟩
            rename jw_H => σt
            rw [eao, ea0] at hT
            have hT2 := jk_R_tr (jk_D_tr hD0 hEa.2.1) (fun c c1 c2 => (hEa.2.2 c c1).trans (e0c c c2)) (fun j hj => (congrFun eaw j).trans (e0x j hj)) (fun hz => ea2.trans hz) hT
            show jw_W (js_S n) _ md_86 35 [some (.inr (.inr 33)), some (.inr (.inr w)), some (.inl a), some (.inl s), some (.inl ((-s)))] [] σt _
            rw [show jk_sm b m (σ o 0) (σ 34 0) = jk_sg b m (σ o 0) 300 (jk_trm b m (σ o 0) (-1) (fun _ => 0) (σ 34 0 + 1)) from by unfold jk_sm; rw [if_pos (by assumption)]]
            have hrk : jk_rok m (σ 34 0 + 1) (jk_trm b m (σ o 0) (-1) (fun _ => 0) (σ 34 0 + 1)) := jk_rok_trm (fun _ _ _ => by omega) (by omega)
            exact jk_sum_loop hw hwo ha hs0 300 hT2 (fun h => ⟨by have := hrk h; omega, (hrk h).2⟩) (fun h => by have := hrk h; omega)
        · exact absurd hc4 (show ¬ ¬ ((3 : Int) ≥ 3) by omega)

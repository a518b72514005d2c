/-! ===== the law, the class: products, sums ===== -/
theorem jl_divide {n : Nat} {σ : jw_H} {x y s a : Int} (hy : jw_rg y) (hs : jw_rg s) (ha : a = 0 ∨ a = 1) (h9 : σ 42 9 = 0 ∨ σ 42 9 = 1)  : jw_T (js_S n) 1 55 [.inr (.inr 42), .inl x, .inl y, .inl s, .inl a] σ (fun r σ' => (y = 0 ∧ r = some (.inl 0) ∧ ∃ f, σ' = jw_up σ 42 9 f ∧ ((f = 1 ∧ (σ 42 9 = 1 ∨ a = 1)) ∨ (f = 0 ∧ σ 42 9 = 0 ∧ a = 0))) ∨ (y ≠ 0 ∧ r = some (.inl (if s = 47 then jw_div x y else jw_rem x y)) ∧ σ' = σ)) := by
  refine jw_T_of (D := 0) (M := mm_55) rfl (Nat.le_of_ble_eq_true rfl) (ls0 := [some (.inr (.inr 42)), some (.inl x), some (.inl y), some (.inl s), some (.inl a)]) rfl ?_ (by rintro _ _ (⟨-, rfl, -⟩ | ⟨-, rfl, -⟩) <;> rfl)
  have ry := hy
  have rs := hs
  unfold jw_rg at ry rs
  refine jw_W_n 1 (i' := 1) (ls' := [some (.inr (.inr 42)), some (.inl x), some (.inl y), some (.inl s), some (.inl a)]) (st' := [.inl y]) rfl ?_
  refine jw_W_if rfl (by unfold jw_rg; omega) (fun hc1 => ?_) (fun hc1 => ?_)
  · have hc1 : y ≠ 0 := hc1
    refine jw_W_n 2 (i' := 16) (ls' := [some (.inr (.inr 42)), some (.inl x), some (.inl y), some (.inl s), some (.inl a)]) (st' := [.inl 47, .inl s]) rfl ?_
    refine jw_W_ic rfl (by unfold jw_rg; omega) (by unfold jw_rg; omega) (fun hc2 => ?_) (fun hc2 => ?_)
    · have hc2 : s ≠ 47 := hc2
      refine jw_W_n 2 (i' := 23) (ls' := [some (.inr (.inr 42)), some (.inl x), some (.inl y), some (.inl s), some (.inl a)]) (st' := [.inl y, .inl x]) rfl ?_
      refine jw_W_irem rfl (by unfold jw_rg; omega) (by omega) ?_
      refine jw_W_ir rfl ?_
      exact .inr ⟨by assumption, by rw [if_neg (by assumption)], rfl⟩
    · have hc2 : s = 47 := Classical.not_not.mp hc2
      refine jw_W_n 2 (i' := 19) (ls' := [some (.inr (.inr 42)), some (.inl x), some (.inl y), some (.inl s), some (.inl a)]) (st' := [.inl y, .inl x]) rfl ?_
      refine jw_W_idiv rfl (by unfold jw_rg; omega) (by omega) ?_
      refine jw_W_n 1 (i' := 24) (ls' := [some (.inr (.inr 42)), some (.inl x), some (.inl y), some (.inl s), some (.inl a)]) (st' := [.inl (jw_div x y)]) rfl ?_
      refine jw_W_ir rfl ?_
      exact .inr ⟨by assumption, by rw [if_pos (by assumption)], rfl⟩
  · have hc1 : y = 0 := Classical.not_not.mp hc1
    refine jw_W_n 2 (i' := 4) (ls' := [some (.inr (.inr 42)), some (.inl x), some (.inl y), some (.inl s), some (.inl a)]) (st' := [.inr (.inr 42), .inr (.inr 42)]) rfl ?_
    refine jw_W_gf rfl rfl rfl ?_
    show jw_W (js_S n) _ md_55 5 [some (.inr (.inr 42)), some (.inl x), some (.inl y), some (.inl s), some (.inl a)] [.inl (σ 42 9), .inr (.inr 42)] σ _
    refine jw_W_if rfl (by unfold jw_rg; omega) (fun hc3 => ?_) (fun hc3 => ?_)
    · have hc3 : (σ 42 9) ≠ 0 := hc3
      refine jw_W_n 2 (i' := 11) (ls' := [some (.inr (.inr 42)), some (.inl x), some (.inl y), some (.inl s), some (.inl a)]) (st' := [.inl 1, .inr (.inr 42)]) rfl ?_
      refine jw_W_pf (a := 1) rfl (by omega) rfl rfl rfl rfl rfl ?_
      refine jw_W_n 1 (i' := 13) (ls' := [some (.inr (.inr 42)), some (.inl x), some (.inl y), some (.inl s), some (.inl a)]) (st' := [.inl 0]) rfl ?_
      refine jw_W_ir rfl ?_
      exact .inl ⟨by assumption, rfl, _, rfl, by omega⟩
    · have hc3 : (σ 42 9) = 0 := Classical.not_not.mp hc3
      refine jw_W_n 1 (i' := 7) (ls' := [some (.inr (.inr 42)), some (.inl x), some (.inl y), some (.inl s), some (.inl a)]) (st' := [.inl a, .inr (.inr 42)]) rfl ?_
      refine jw_W_if rfl (by unfold jw_rg; omega) (fun hc4 => ?_) (fun hc4 => ?_)
      · have hc4 : a = 0 := hc4
        refine jw_W_n 1 (i' := 11) (ls' := [some (.inr (.inr 42)), some (.inl x), some (.inl y), some (.inl s), some (.inl a)]) (st' := [.inl 0, .inr (.inr 42)]) rfl ?_
        refine jw_W_pf (a := 0) rfl (by omega) rfl rfl rfl rfl rfl ?_
        refine jw_W_n 1 (i' := 13) (ls' := [some (.inr (.inr 42)), some (.inl x), some (.inl y), some (.inl s), some (.inl a)]) (st' := [.inl 0]) rfl ?_
        refine jw_W_ir rfl ?_
        exact .inl ⟨by assumption, rfl, _, rfl, by omega⟩
      · have hc4 : ¬ (a = 0) := hc4
        refine jw_W_n 2 (i' := 11) (ls' := [some (.inr (.inr 42)), some (.inl x), some (.inl y), some (.inl s), some (.inl a)]) (st' := [.inl 1, .inr (.inr 42)]) rfl ?_
        refine jw_W_pf (a := 1) rfl (by omega) rfl rfl rfl rfl rfl ?_
        refine jw_W_n 1 (i' := 13) (ls' := [some (.inr (.inr 42)), some (.inl x), some (.inl y), some (.inl s), some (.inl a)]) (st' := [.inl 0]) rfl ?_
        refine jw_W_ir rfl ?_
        exact .inl ⟨by assumption, rfl, _, rfl, by omega⟩
theorem jl_E9 {b : Int → Int} {m : Int} {e : Int → Int} {σ : jw_H} (h : jl_X b m e σ) {f : Int} (hf : f = 0 ∨ f = 1) : jl_X b m e (jw_up σ 42 9 f) ∧ jl_D σ (jw_up σ 42 9 f) := by
  obtain ⟨g1, h3, h4, h5, h6, h7, h8, h9⟩ := h
  have c : ∀ c, c ≠ 42 → jw_up σ 42 9 f c = σ c := fun c hc => jw_up_out _ _ _ hc
  refine ⟨⟨jl_tx_of g1 (by rw [c 43 (by omega)]) (by rw [c 43 (by omega)]) (by rw [c 43 (by omega)]; omega) (fun c' hc => c c' (by omega)), by rw [c 43 (by omega)]; exact h3, by rw [c 43 (by omega)]; exact h4, h5, by rw [c 43 (by omega)]; exact h6, by rw [jw_up_eq]; exact hf, ?_, fun j j0 j1 => by rw [c 46 (by omega)]; exact h9 j j0 j1⟩, ⟨fun c' c1 _ => c c' c1, fun j hj => jw_up_ne _ (by omega), fun _ => by rw [c 43 (by omega)], by rw [c 43 (by omega)]; exact Int.le_refl _⟩⟩
  unfold jl_st jk_sw at h8 ⊢
  rw [c 1 (by omega), c (1 + 1) (by omega)]
  exact h8
/-- a value so far, and the flag -/
def jl_sw (b : Int → Int) (m : Int) (e : Int → Int) (V : Int → Prop) (R : jl_R) (a v : Int) (σ σ' : jw_H) : Prop := V v ∧ jl_X b m e σ' ∧ jl_D σ σ' ∧ (a = 0 → σ' 42 9 = σ 42 9) ∧ (σ 43 2 = 0 → σ' 43 2 = R.1 ∧ (R.1 = 0 → σ' 43 0 = R.2.1 ∧ (a = 1 → ∃ d : Prop, jl_val e R.2.2 d v ∧ (σ' 42 9 = 1 ↔ σ 42 9 = 1 ∨ d))))
section JLS
variable {b : Int → Int} {m : Int} {e : Int → Int} {V : Int → Prop} {R X T : jl_R} {a v w u : Int} {σ τ σ1 σ2 : jw_H} {c : List (Int × Int)}
theorem jl_sw_ch (h : jl_sw b m e V R a v σ τ) (hc : σ 43 2 = 0 → R = T) : jl_sw b m e V T a v σ τ := ⟨h.1, h.2.1, h.2.2.1, h.2.2.2.1, fun hz => by rw [← hc hz]; exact h.2.2.2.2 hz⟩
theorem jl_val_any {d : Prop} (hd : d) (h : jl_val e c d v) : jl_val e c d w := fun r st => ⟨(h r st).1, fun n => absurd hd n⟩
theorem jl_step (hv : jl_sw b m e V R a v σ τ) (hE1 : jl_E b m e τ σ1) (e12 : σ1 43 2 = τ 43 2) (hw : jl_sw b m e V X a w σ1 σ2) (hz : τ 43 2 = 0) (hu : V u) (hc : ∀ d1 d2 : Prop, jl_val e R.2.2 d1 v → jl_val e X.2.2 d2 w → jl_val e c (d1 ∨ d2) u) : jl_sw b m e V (X.1, X.2.1, c) a u σ σ2 := by
  obtain ⟨-, hX2, hD2, h20, h22⟩ := hw
  refine ⟨hu, hX2, jl_D_tr hv.2.2.1 (jl_D_tr hE1.2.1 hD2), fun h0 => (h20 h0).trans ((congrFun hE1.2.2 9).trans (hv.2.2.2.1 h0)), fun hz3 => ?_⟩
  obtain ⟨f1, f2⟩ := hv.2.2.2.2 hz3
  obtain ⟨k1, k2⟩ := h22 (e12.trans hz)
  refine ⟨k1, fun hX => ⟨(k2 hX).1, fun ha => ?_⟩⟩
  obtain ⟨d1, v1, v2⟩ := (f2 (by omega)).2 ha
  obtain ⟨d2, w1, w2⟩ := (k2 hX).2 ha
  refine ⟨d1 ∨ d2, hc d1 d2 v1 w1, ?_⟩
  rw [w2, congrFun hE1.2.2 9, v2, or_assoc]
theorem jl_step0 (hv : jl_sw b m e V R a v σ τ) (hE1 : jl_E b m e τ σ1) (e12 : σ1 43 2 = τ 43 2) (hw : jl_sw b m e V X a w σ1 σ2) (hz : τ 43 2 = 0) (hu : V u) {f : Int} (hf : (f = 1 ∧ (σ2 42 9 = 1 ∨ a = 1)) ∨ (f = 0 ∧ σ2 42 9 = 0 ∧ a = 0)) (ha : a = 0 ∨ a = 1) (hc : ∀ d1 d2 : Prop, jl_val e R.2.2 d1 v → jl_val e X.2.2 d2 w → ∃ d : Prop, d ∧ jl_val e c d u) : jl_sw b m e V (X.1, X.2.1, c) a u σ (jw_up σ2 42 9 f) := by
  obtain ⟨-, hX2, hD2, h20, h22⟩ := hw
  have k9 := jl_E9 hX2 (f := f) (by omega)
  have e43 : ∀ j, jw_up σ2 42 9 f 43 j = σ2 43 j := fun j => by rw [jw_up_out _ _ _ (by omega)]
  refine ⟨hu, k9.1, jl_D_tr hv.2.2.1 (jl_D_tr hE1.2.1 (jl_D_tr hD2 k9.2)), fun h0 => ?_, fun hz3 => ?_⟩
  · rw [jw_up_eq, ← hv.2.2.2.1 h0, ← congrFun hE1.2.2 9, ← h20 h0]
    omega
  obtain ⟨f1, f2⟩ := hv.2.2.2.2 hz3
  obtain ⟨k1, k2⟩ := h22 (e12.trans hz)
  refine ⟨by rw [e43]; exact k1, fun hX => ⟨by rw [e43]; exact (k2 hX).1, fun ha => ?_⟩⟩
  obtain ⟨d1, v1, v2⟩ := (f2 (by omega)).2 ha
  obtain ⟨d2, w1, w2⟩ := (k2 hX).2 ha
  obtain ⟨d, hd, hv⟩ := hc d1 d2 v1 w1
  exact ⟨d, hv, by rw [jw_up_eq]; exact ⟨fun _ => .inr hd, fun _ => by omega⟩⟩
end JLS
theorem jl_prl_no {b : Int → Int} {m : Int} {G : Int → jl_R} {k : Nat} {R : jl_R} (h : ¬ (R.1 = 0 ∧ jl_tim (jk_h b m R.2.1) ≠ 0)) : ∀ f, jl_prl b m G k f R = R
  | 0 => rfl
  | f + 1 => if_neg h
theorem jl_sml_no {b : Int → Int} {m : Int} {G : Int → jl_R} {k : Nat} {R : jl_R} (h : ¬ (R.1 = 0 ∧ jl_sgn (jk_h b m R.2.1) ≠ 0)) : ∀ f, jl_sml b m G k f R = R
  | 0 => rfl
  | f + 1 => if_neg h
theorem jl_tim_42 {x : Int} (h : x = 42) : jl_tim x = 4 := by rw [h]; rfl
theorem jl_tim_47 {x : Int} (h : x = 47) : jl_tim x = 5 := by rw [h]; rfl
theorem jl_tim_37 {x : Int} (h : x = 37) : jl_tim x = 6 := by rw [h]; rfl
theorem jl_sgn_43 {x : Int} (h : x = 43) : jl_sgn x = 2 := by rw [h]; rfl
theorem jl_sgn_45 {x : Int} (h : x = 45) : jl_sgn x = 3 := by rw [h]; rfl
theorem jl_div_rg (x y : Int) : jw_rg (jw_div x y) ∧ jw_rg (jw_rem x y) := by
  unfold jw_rg jw_div jw_rem
  exact ⟨⟨Int32.le_toInt _, by have := Int32.toInt_lt (Int32.ofInt x / Int32.ofInt y); omega⟩, ⟨Int32.le_toInt _, by have := Int32.toInt_lt (Int32.ofInt x - Int32.ofInt x / Int32.ofInt y * Int32.ofInt y); omega⟩⟩
theorem jl_prod_loop {n : Nat} {σ : jw_H} {b : Int → Int} {m : Int} {e : Int → Int} {G : Int → jl_R} (hG : ∀ i, 0 ≤ i → jl_ok m i (G i)) {k D : Nat} {o a : Int} (hI : jl_ms n b m e jl_rgV D 56 o (jl_fac b m G k)) (hD : 5 ≤ D) (ha : a = 0 ∨ a = 1) : ∀ (f : Nat) {R : jl_R} {τ : jw_H} {v : Int} {x4 x5 : Option jw_V}, jl_sw b m e jl_rgV R a v σ τ → jl_ok m (-1) R → (R.1 = 0 → m < R.2.1 + f) → jw_W (js_S n) D md_54 5 [some (.inr (.inr 42)), some (.inl o), some (.inl a), some (.inl v), x4, x5] [] τ (fun r σ' => ∃ u, r = some (.inl u) ∧ jl_sw b m e jl_rgV (jl_prl b m G k f R) a u σ σ')
  | f, R, τ, v, x4, x5, hv, hok, hfu => by
    have hX := hv.2.1
    have h4 := hX.2.2.1
    have h5 := hX.2.2.2.1
    have h3 := hX.2.1
    have h6 := hX.2.2.2.2.1
    have hh := jl_X_h hX h4.1
    have hN : ¬ (τ 43 0 < m) → jk_h b m (τ 43 0) = -1 := fun hh => jk_h_out (by omega)
    have htim : jl_tim (jk_h b m (τ 43 0)) ≠ 0 ↔ jk_h b m (τ 43 0) = 42 ∨ jk_h b m (τ 43 0) = 47 ∨ jk_h b m (τ 43 0) = 37 := by
      unfold jl_tim
      repeat' split
      all_goals omega
    have stop : (τ 43 2 ≠ 0 ∨ ¬ (τ 43 0 < τ 43 1) ∨ ¬ (jk_h b m (τ 43 0) = 42 ∨ jk_h b m (τ 43 0) = 47 ∨ jk_h b m (τ 43 0) = 37)) → ∃ u, some (Sum.inl v : jw_V) = some (.inl u) ∧ jl_sw b m e jl_rgV (jl_prl b m G k f R) a u σ τ := by
      intro hc
      refine ⟨v, rfl, jl_sw_ch hv (fun hz => ?_)⟩
      obtain ⟨f1, f2⟩ := hv.2.2.2.2 hz
      refine (jl_prl_no (fun hq => ?_) f).symm
      have e0 := (f2 hq.1).1
      rw [← e0] at hq
      rcases hc with hc | hc | hc
      · omega
      · have h7 := hN (by omega)
        rw [h7] at hq
        exact hq.2 (by decide)
      · exact hc (htim.mp hq.2)
    have go : ∀ {τ' : jw_H} {w : Int} {y4 y5 : Option jw_V}, jl_sw b m e jl_rgV ((jl_fac b m G k (τ 43 0 + 1)).1, (jl_fac b m G k (τ 43 0 + 1)).2.1, R.2.2 ++ (jl_fac b m G k (τ 43 0 + 1)).2.2 ++ [(jl_tim (jk_h b m (τ 43 0)), 0)]) a w σ τ' → τ 43 2 = 0 → τ 43 0 < τ 43 1 → (jk_h b m (τ 43 0) = 42 ∨ jk_h b m (τ 43 0) = 47 ∨ jk_h b m (τ 43 0) = 37) → jw_W (js_S n) D md_54 5 [some (.inr (.inr 42)), some (.inl o), some (.inl a), some (.inl w), y4, y5] [] τ' (fun r σ' => ∃ u, r = some (.inl u) ∧ jl_sw b m e jl_rgV (jl_prl b m G k f R) a u σ σ') := by
      intro τ' w y4 y5 hs hz hlt hsg
      have hz3 : σ 43 2 = 0 := Classical.byContradiction (fun q => by have := hv.2.2.1.2.2.1 q; omega)
      obtain ⟨f1, f2⟩ := hv.2.2.2.2 hz3
      have hz1 : R.1 = 0 := by omega
      have e0 := (f2 hz1).1
      have hf2 := hfu hz1
      match f, hf2 with
      | 0, hf2 => omega
      | f + 1, hf2 =>
        have e1 : jl_prl b m G k (f + 1) R = jl_prl b m G k f ((jl_fac b m G k (R.2.1 + 1)).1, (jl_fac b m G k (R.2.1 + 1)).2.1, R.2.2 ++ (jl_fac b m G k (R.2.1 + 1)).2.2 ++ [(jl_tim (jk_h b m R.2.1), 0)]) := if_pos ⟨hz1, by rw [← e0]; exact htim.mpr hsg⟩
        rw [e1]
        rw [e0] at hs
        have hrk := jl_ok_fac (b := b) (m := m) (k := k) hG (i := R.2.1 + 1) (by omega)
        refine jl_prod_loop hG hI hD ha f hs (fun h => ?_) (fun h => ?_)
        · have := hrk h
          exact ⟨by show -1 < (jl_fac b m G k (R.2.1 + 1)).2.1; omega, this.2⟩
        · have := hrk h
          show m < (jl_fac b m G k (R.2.1 + 1)).2.1 + (f : Int)
          omega
    refine jw_W_n 1 (i' := 6) (ls' := [some (.inr (.inr 42)), some (.inl o), some (.inl a), some (.inl v), x4, x5]) (st' := [.inr (.inr 42)]) rfl ?_
    refine jw_W_gf rfl rfl rfl ?_
    show jw_W (js_S n) _ md_54 7 [some (.inr (.inr 42)), some (.inl o), some (.inl a), some (.inl v), x4, x5] [.inr (.inr 43)] τ _
    refine jw_W_gf rfl rfl rfl ?_
    show jw_W (js_S n) _ md_54 8 [some (.inr (.inr 42)), some (.inl o), some (.inl a), some (.inl v), x4, x5] [.inl (τ 43 2)] τ _
    refine jw_W_if rfl (by unfold jw_rg; omega) (fun hc1 => ?_) (fun hc1 => ?_)
    · have hc1 : (τ 43 2) ≠ 0 := hc1
      refine jw_W_n 1 (i' := 63) (ls' := [some (.inr (.inr 42)), some (.inl o), some (.inl a), some (.inl v), x4, x5]) (st' := [.inl v]) rfl ?_
      refine jw_W_ir rfl ?_
      exact stop (by omega)
    · have hc1 : (τ 43 2) = 0 := Classical.not_not.mp hc1
      refine jw_W_n 1 (i' := 10) (ls' := [some (.inr (.inr 42)), some (.inl o), some (.inl a), some (.inl v), x4, x5]) (st' := [.inr (.inr 42)]) rfl ?_
      refine jw_W_gf rfl rfl rfl ?_
      show jw_W (js_S n) _ md_54 11 [some (.inr (.inr 42)), some (.inl o), some (.inl a), some (.inl v), x4, x5] [.inr (.inr 43)] τ _
      refine jw_W_gf rfl rfl rfl ?_
      show jw_W (js_S n) _ md_54 12 [some (.inr (.inr 42)), some (.inl o), some (.inl a), some (.inl v), x4, x5] [.inl (τ 43 0)] τ _
      refine jw_W_n 1 (i' := 13) (ls' := [some (.inr (.inr 42)), some (.inl o), some (.inl a), some (.inl v), x4, x5]) (st' := [.inr (.inr 42), .inl (τ 43 0)]) rfl ?_
      refine jw_W_gf rfl rfl rfl ?_
      show jw_W (js_S n) _ md_54 14 [some (.inr (.inr 42)), some (.inl o), some (.inl a), some (.inl v), x4, x5] [.inr (.inr 43), .inl (τ 43 0)] τ _
      refine jw_W_gf rfl rfl rfl ?_
      show jw_W (js_S n) _ md_54 15 [some (.inr (.inr 42)), some (.inl o), some (.inl a), some (.inl v), x4, x5] [.inl (τ 43 1), .inl (τ 43 0)] τ _
      refine jw_W_ic rfl (by unfold jw_rg; omega) (by unfold jw_rg; omega) (fun hc2 => ?_) (fun hc2 => ?_)
      · have hc2 : (τ 43 0) ≥ (τ 43 1) := hc2
        refine jw_W_n 1 (i' := 63) (ls' := [some (.inr (.inr 42)), some (.inl o), some (.inl a), some (.inl v), x4, x5]) (st' := [.inl v]) rfl ?_
        refine jw_W_ir rfl ?_
        exact stop (by omega)
      · have hc2 : ¬ ((τ 43 0) ≥ (τ 43 1)) := hc2
        refine jw_W_n 1 (i' := 17) (ls' := [some (.inr (.inr 42)), some (.inl o), some (.inl a), some (.inl v), x4, x5]) (st' := [.inr (.inr 42)]) rfl ?_
        refine jw_W_gf rfl rfl rfl ?_
        show jw_W (js_S n) _ md_54 18 [some (.inr (.inr 42)), some (.inl o), some (.inl a), some (.inl v), x4, x5] [.inr (.inr 43)] τ _
        refine jw_W_call (as := [.inr (.inr 43)]) (rest := []) rfl rfl rfl rfl (Nat.le_of_ble_eq_true rfl) (.inr rfl) (jl_here hX) (by omega) ?_ rfl
        rintro r1 σz ⟨rfl, hs⟩
        rw [hs]
        show jw_W (js_S n) _ md_54 19 [some (.inr (.inr 42)), some (.inl o), some (.inl a), some (.inl v), x4, x5] [.inl (jk_h b m (τ 43 0))] τ _
        refine jw_W_n 1 (i' := 20) (ls' := [some (.inr (.inr 42)), some (.inl o), some (.inl a), some (.inl v), x4, x5]) (st' := [.inl 42, .inl (jk_h b m (τ 43 0))]) rfl ?_
        refine jw_W_ic rfl (by unfold jw_rg; omega) (by unfold jw_rg; omega) (fun hc3 => ?_) (fun hc3 => ?_)
        · have hc3 : (jk_h b m (τ 43 0)) = 42 := hc3
          refine jw_W_n 1 (i' := 32) (ls' := [some (.inr (.inr 42)), some (.inl o), some (.inl a), some (.inl v), x4, x5]) (st' := [.inr (.inr 42)]) rfl ?_
          refine jw_W_gf rfl rfl rfl ?_
          show jw_W (js_S n) _ md_54 33 [some (.inr (.inr 42)), some (.inl o), some (.inl a), some (.inl v), x4, x5] [.inr (.inr 43)] τ _
          refine jw_W_call (as := [.inr (.inr 43)]) (rest := []) rfl rfl rfl rfl (Nat.le_of_ble_eq_true rfl) (.inr rfl) (jl_here hX) (by omega) ?_ rfl
          rintro r1 σz ⟨rfl, hs⟩
          rw [hs]
          show jw_W (js_S n) _ md_54 34 [some (.inr (.inr 42)), some (.inl o), some (.inl a), some (.inl v), x4, x5] [.inl (jk_h b m (τ 43 0))] τ _
          refine jw_W_n 2 (i' := 36) (ls' := [some (.inr (.inr 42)), some (.inl o), some (.inl a), some (.inl v), some (.inl (jk_h b m (τ 43 0))), x5]) (st' := [.inr (.inr 42)]) rfl ?_
          refine jw_W_gf rfl rfl rfl ?_
          show jw_W (js_S n) _ md_54 37 [some (.inr (.inr 42)), some (.inl o), some (.inl a), some (.inl v), some (.inl (jk_h b m (τ 43 0))), x5] [.inr (.inr 43)] τ _
          refine jw_W_n 1 (i' := 38) (ls' := [some (.inr (.inr 42)), some (.inl o), some (.inl a), some (.inl v), some (.inl (jk_h b m (τ 43 0))), x5]) (st' := [.inr (.inr 43), .inr (.inr 43)]) rfl ?_
          refine jw_W_gf rfl rfl rfl ?_
          show jw_W (js_S n) _ md_54 39 [some (.inr (.inr 42)), some (.inl o), some (.inl a), some (.inl v), some (.inl (jk_h b m (τ 43 0))), x5] [.inl (τ 43 0), .inr (.inr 43)] τ _
          refine jw_W_n 2 (i' := 41) (ls' := [some (.inr (.inr 42)), some (.inl o), some (.inl a), some (.inl v), some (.inl (jk_h b m (τ 43 0))), x5]) (st' := [.inl (τ 43 0 + 1), .inr (.inr 43)]) rfl ?_
          refine jw_W_pf (a := τ 43 0 + 1) rfl (by omega) rfl rfl rfl rfl rfl ?_
          obtain ⟨σ1, hs1⟩ : ∃ s : jw_H, s = jw_up τ 43 0 (τ 43 0 + 1) := ⟨_, rfl⟩
          show jw_W (js_S n) _ _ _ _ _ (jw_up τ 43 0 (τ 43 0 + 1)) _
          rw [← hs1]
          have hE1 : jl_E b m e τ σ1 := by rw [hs1]; exact jl_E_to hX (by have := hh.2.2 (by omega); omega)
          have e10 : σ1 43 0 = τ 43 0 + 1 := by rw [hs1, jw_up_eq]
          have e12 : σ1 43 2 = τ 43 2 := by rw [hs1, jw_up_ne _ (by omega)]
          have hz : τ 43 2 = 0 := by omega
          have hlt : τ 43 0 < τ 43 1 := by omega
          refine jw_W_n 3 (i' := 45) (ls' := [some (.inr (.inr 42)), some (.inl o), some (.inl a), some (.inl v), some (.inl (jk_h b m (τ 43 0))), x5]) (st' := [.inl a, .inl o, .inr (.inr 42)]) rfl ?_
          refine jw_W_call (as := [.inr (.inr 42), .inl o, .inl a]) (rest := []) rfl rfl rfl rfl (Nat.le_of_ble_eq_true rfl) (.inr rfl) (hI σ1 a hE1.1 ha) (by omega) ?_ rfl
          rintro r1 σ2 ⟨w, rfl, hw⟩
          rename jw_H => σ2
          rw [e10] at hw
          have hw : jl_sw b m e jl_rgV (jl_fac b m G k (τ 43 0 + 1)) a w σ1 σ2 := hw
          have hrw : jw_rg w := hw.1
          have hrw2 := hrw
          unfold jw_rg at hrw2
          have hX2 := hw.2.1
          show jw_W (js_S n) _ md_54 46 [some (.inr (.inr 42)), some (.inl o), some (.inl a), some (.inl v), some (.inl (jk_h b m (τ 43 0))), x5] [.inl w] σ2 _
          refine jw_W_n 3 (i' := 49) (ls' := [some (.inr (.inr 42)), some (.inl o), some (.inl a), some (.inl v), some (.inl (jk_h b m (τ 43 0))), some (.inl w)]) (st' := [.inl 42, .inl (jk_h b m (τ 43 0))]) rfl ?_
          refine jw_W_ic rfl (by unfold jw_rg; omega) (by unfold jw_rg; omega) (fun hc4 => ?_) (fun hc4 => ?_)
          · have hc4 : (jk_h b m (τ 43 0)) ≠ 42 := hc4
            refine jw_W_n 5 (i' := 59) (ls' := [some (.inr (.inr 42)), some (.inl o), some (.inl a), some (.inl v), some (.inl (jk_h b m (τ 43 0))), some (.inl w)]) (st' := [.inl a, .inl (jk_h b m (τ 43 0)), .inl w, .inl v, .inr (.inr 42)]) rfl ?_
            refine jw_W_call (as := [.inr (.inr 42), .inl v, .inl w, .inl (jk_h b m (τ 43 0)), .inl a]) (rest := []) rfl rfl rfl rfl (Nat.le_of_ble_eq_true rfl) (.inr rfl) (jl_divide hrw (by unfold jw_rg; omega) ha hX2.2.2.2.2.2.1) (by omega) ?_ rfl
            rintro r1 σ3 (⟨hw0, rfl, f0, hs3, hf⟩ | ⟨hw0, rfl, hs3⟩)
            · rename jw_H => σ3
              show jw_W (js_S n) _ md_54 60 [some (.inr (.inr 42)), some (.inl o), some (.inl a), some (.inl v), some (.inl (jk_h b m (τ 43 0))), some (.inl w)] [.inl 0] σ3 _
              refine jw_W_n 2 (i' := 5) (ls' := [some (.inr (.inr 42)), some (.inl o), some (.inl a), some (.inl 0), some (.inl (jk_h b m (τ 43 0))), some (.inl w)]) (st' := []) rfl ?_
              rw [hs3]
              refine go (jl_step0 hv hE1 e12 hw hz (by show jw_rg 0; unfold jw_rg; omega) hf ha (fun d1 d2 k1 k2 => ⟨_, .inr (.inr hw0), jl_val_any (.inr (.inr hw0)) (jl_val_div k1 k2 ?_)⟩)) hz hlt (by omega)
              unfold jl_tim
              repeat' split
              all_goals omega
            · rw [hs3]
              show jw_W (js_S n) _ md_54 60 [some (.inr (.inr 42)), some (.inl o), some (.inl a), some (.inl v), some (.inl (jk_h b m (τ 43 0))), some (.inl w)] [.inl (if jk_h b m (τ 43 0) = 47 then jw_div v w else jw_rem v w)] σ2 _
              refine jw_W_n 2 (i' := 5) (ls' := [some (.inr (.inr 42)), some (.inl o), some (.inl a), some (.inl (if jk_h b m (τ 43 0) = 47 then jw_div v w else jw_rem v w)), some (.inl (jk_h b m (τ 43 0))), some (.inl w)]) (st' := []) rfl ?_
              by_cases h47 : jk_h b m (τ 43 0) = 47
              · rw [if_pos h47]
                exact go (jl_step hv hE1 e12 hw hz (jl_div_rg _ _).1 (fun d1 d2 k1 k2 => by
                  rw [jl_tim_47 h47]
                  have k3 := jl_val_div k1 k2 (o := 5) (by omega)
                  rw [show (d1 ∨ d2 ∨ w = 0) = (d1 ∨ d2) by simp only [hw0, or_false]] at k3
                  exact k3)) hz hlt (by omega)
              · rw [if_neg h47]
                exact go (jl_step hv hE1 e12 hw hz (jl_div_rg _ _).2 (fun d1 d2 k1 k2 => by
                  rw [jl_tim_37 (by omega)]
                  have k3 := jl_val_div k1 k2 (o := 6) (by omega)
                  rw [show (d1 ∨ d2 ∨ w = 0) = (d1 ∨ d2) by simp only [hw0, or_false]] at k3
                  exact k3)) hz hlt (by omega)
          · have hc4 : (jk_h b m (τ 43 0)) = 42 := Classical.not_not.mp hc4
            refine jw_W_n 4 (i' := 60) (ls' := [some (.inr (.inr 42)), some (.inl o), some (.inl a), some (.inl v), some (.inl (jk_h b m (τ 43 0))), some (.inl w)]) (st' := [.inl (v * w)]) rfl ?_
            refine jl_W_n ?_
            refine jw_W_n 2 (i' := 5) (ls' := [some (.inr (.inr 42)), some (.inl o), some (.inl a), some (.inl (jw_n (v * w))), some (.inl (jk_h b m (τ 43 0))), some (.inl w)]) (st' := []) rfl ?_
            exact go (jl_step hv hE1 e12 hw hz (jl_n_rg _) (fun d1 d2 k1 k2 => by
              rw [jl_tim_42 (by omega)]
              exact jl_val_bin k1 k2 (by omega) (by omega))) hz hlt (by omega)
        · have hc3 : ¬ ((jk_h b m (τ 43 0)) = 42) := hc3
          refine jw_W_n 1 (i' := 22) (ls' := [some (.inr (.inr 42)), some (.inl o), some (.inl a), some (.inl v), x4, x5]) (st' := [.inr (.inr 42)]) rfl ?_
          refine jw_W_gf rfl rfl rfl ?_
          show jw_W (js_S n) _ md_54 23 [some (.inr (.inr 42)), some (.inl o), some (.inl a), some (.inl v), x4, x5] [.inr (.inr 43)] τ _
          refine jw_W_call (as := [.inr (.inr 43)]) (rest := []) rfl rfl rfl rfl (Nat.le_of_ble_eq_true rfl) (.inr rfl) (jl_here hX) (by omega) ?_ rfl
          rintro r1 σz ⟨rfl, hs⟩
          rw [hs]
          show jw_W (js_S n) _ md_54 24 [some (.inr (.inr 42)), some (.inl o), some (.inl a), some (.inl v), x4, x5] [.inl (jk_h b m (τ 43 0))] τ _
          refine jw_W_n 1 (i' := 25) (ls' := [some (.inr (.inr 42)), some (.inl o), some (.inl a), some (.inl v), x4, x5]) (st' := [.inl 47, .inl (jk_h b m (τ 43 0))]) rfl ?_
          refine jw_W_ic rfl (by unfold jw_rg; omega) (by unfold jw_rg; omega) (fun hc5 => ?_) (fun hc5 => ?_)
          · have hc5 : (jk_h b m (τ 43 0)) = 47 := hc5
            refine jw_W_n 1 (i' := 32) (ls' := [some (.inr (.inr 42)), some (.inl o), some (.inl a), some (.inl v), x4, x5]) (st' := [.inr (.inr 42)]) rfl ?_
            refine jw_W_gf rfl rfl rfl ?_
            show jw_W (js_S n) _ md_54 33 [some (.inr (.inr 42)), some (.inl o), some (.inl a), some (.inl v), x4, x5] [.inr (.inr 43)] τ _
            refine jw_W_call (as := [.inr (.inr 43)]) (rest := []) rfl rfl rfl rfl (Nat.le_of_ble_eq_true rfl) (.inr rfl) (jl_here hX) (by omega) ?_ rfl
            rintro r1 σz ⟨rfl, hs⟩
            rw [hs]
            show jw_W (js_S n) _ md_54 34 [some (.inr (.inr 42)), some (.inl o), some (.inl a), some (.inl v), x4, x5] [.inl (jk_h b m (τ 43 0))] τ _
            refine jw_W_n 2 (i' := 36) (ls' := [some (.inr (.inr 42)), some (.inl o), some (.inl a), some (.inl v), some (.inl (jk_h b m (τ 43 0))), x5]) (st' := [.inr (.inr 42)]) rfl ?_
            refine jw_W_gf rfl rfl rfl ?_
            show jw_W (js_S n) _ md_54 37 [some (.inr (.inr 42)), some (.inl o), some (.inl a), some (.inl v), some (.inl (jk_h b m (τ 43 0))), x5] [.inr (.inr 43)] τ _
            refine jw_W_n 1 (i' := 38) (ls' := [some (.inr (.inr 42)), some (.inl o), some (.inl a), some (.inl v), some (.inl (jk_h b m (τ 43 0))), x5]) (st' := [.inr (.inr 43), .inr (.inr 43)]) rfl ?_
            refine jw_W_gf rfl rfl rfl ?_
            show jw_W (js_S n) _ md_54 39 [some (.inr (.inr 42)), some (.inl o), some (.inl a), some (.inl v), some (.inl (jk_h b m (τ 43 0))), x5] [.inl (τ 43 0), .inr (.inr 43)] τ _
            refine jw_W_n 2 (i' := 41) (ls' := [some (.inr (.inr 42)), some (.inl o), some (.inl a), some (.inl v), some (.inl (jk_h b m (τ 43 0))), x5]) (st' := [.inl (τ 43 0 + 1), .inr (.inr 43)]) rfl ?_
            refine jw_W_pf (a := τ 43 0 + 1) rfl (by omega) rfl rfl rfl rfl rfl ?_
            obtain ⟨σ1, hs1⟩ : ∃ s : jw_H, s = jw_up τ 43 0 (τ 43 0 + 1) := ⟨_, rfl⟩
            show jw_W (js_S n) _ _ _ _ _ (jw_up τ 43 0 (τ 43 0 + 1)) _
            rw [← hs1]
            have hE1 : jl_E b m e τ σ1 := by rw [hs1]; exact jl_E_to hX (by have := hh.2.2 (by omega); omega)
            have e10 : σ1 43 0 = τ 43 0 + 1 := by rw [hs1, jw_up_eq]
            have e12 : σ1 43 2 = τ 43 2 := by rw [hs1, jw_up_ne _ (by omega)]
            have hz : τ 43 2 = 0 := by omega
            have hlt : τ 43 0 < τ 43 1 := by omega
            refine jw_W_n 3 (i' := 45) (ls' := [some (.inr (.inr 42)), some (.inl o), some (.inl a), some (.inl v), some (.inl (jk_h b m (τ 43 0))), x5]) (st' := [.inl a, .inl o, .inr (.inr 42)]) rfl ?_
            refine jw_W_call (as := [.inr (.inr 42), .inl o, .inl a]) (rest := []) rfl rfl rfl rfl (Nat.le_of_ble_eq_true rfl) (.inr rfl) (hI σ1 a hE1.1 ha) (by omega) ?_ rfl
            rintro r1 σ2 ⟨w, rfl, hw⟩
            rename jw_H => σ2
            rw [e10] at hw
            have hw : jl_sw b m e jl_rgV (jl_fac b m G k (τ 43 0 + 1)) a w σ1 σ2 := hw
            have hrw : jw_rg w := hw.1
            have hrw2 := hrw
            unfold jw_rg at hrw2
            have hX2 := hw.2.1
            show jw_W (js_S n) _ md_54 46 [some (.inr (.inr 42)), some (.inl o), some (.inl a), some (.inl v), some (.inl (jk_h b m (τ 43 0))), x5] [.inl w] σ2 _
            refine jw_W_n 3 (i' := 49) (ls' := [some (.inr (.inr 42)), some (.inl o), some (.inl a), some (.inl v), some (.inl (jk_h b m (τ 43 0))), some (.inl w)]) (st' := [.inl 42, .inl (jk_h b m (τ 43 0))]) rfl ?_
            refine jw_W_ic rfl (by unfold jw_rg; omega) (by unfold jw_rg; omega) (fun hc6 => ?_) (fun hc6 => ?_)
            · have hc6 : (jk_h b m (τ 43 0)) ≠ 42 := hc6
              refine jw_W_n 5 (i' := 59) (ls' := [some (.inr (.inr 42)), some (.inl o), some (.inl a), some (.inl v), some (.inl (jk_h b m (τ 43 0))), some (.inl w)]) (st' := [.inl a, .inl (jk_h b m (τ 43 0)), .inl w, .inl v, .inr (.inr 42)]) rfl ?_
              refine jw_W_call (as := [.inr (.inr 42), .inl v, .inl w, .inl (jk_h b m (τ 43 0)), .inl a]) (rest := []) rfl rfl rfl rfl (Nat.le_of_ble_eq_true rfl) (.inr rfl) (jl_divide hrw (by unfold jw_rg; omega) ha hX2.2.2.2.2.2.1) (by omega) ?_ rfl
              rintro r1 σ3 (⟨hw0, rfl, f0, hs3, hf⟩ | ⟨hw0, rfl, hs3⟩)
              · rename jw_H => σ3
                show jw_W (js_S n) _ md_54 60 [some (.inr (.inr 42)), some (.inl o), some (.inl a), some (.inl v), some (.inl (jk_h b m (τ 43 0))), some (.inl w)] [.inl 0] σ3 _
                refine jw_W_n 2 (i' := 5) (ls' := [some (.inr (.inr 42)), some (.inl o), some (.inl a), some (.inl 0), some (.inl (jk_h b m (τ 43 0))), some (.inl w)]) (st' := []) rfl ?_
                rw [hs3]
                refine go (jl_step0 hv hE1 e12 hw hz (by show jw_rg 0; unfold jw_rg; omega) hf ha (fun d1 d2 k1 k2 => ⟨_, .inr (.inr hw0), jl_val_any (.inr (.inr hw0)) (jl_val_div k1 k2 ?_)⟩)) hz hlt (by omega)
                unfold jl_tim
                repeat' split
                all_goals omega
              · rw [hs3]
                show jw_W (js_S n) _ md_54 60 [some (.inr (.inr 42)), some (.inl o), some (.inl a), some (.inl v), some (.inl (jk_h b m (τ 43 0))), some (.inl w)] [.inl (if jk_h b m (τ 43 0) = 47 then jw_div v w else jw_rem v w)] σ2 _
                refine jw_W_n 2 (i' := 5) (ls' := [some (.inr (.inr 42)), some (.inl o), some (.inl a), some (.inl (if jk_h b m (τ 43 0) = 47 then jw_div v w else jw_rem v w)), some (.inl (jk_h b m (τ 43 0))), some (.inl w)]) (st' := []) rfl ?_
                by_cases h47 : jk_h b m (τ 43 0) = 47
                · rw [if_pos h47]
                  exact go (jl_step hv hE1 e12 hw hz (jl_div_rg _ _).1 (fun d1 d2 k1 k2 => by
                    rw [jl_tim_47 h47]
                    have k3 := jl_val_div k1 k2 (o := 5) (by omega)
                    rw [show (d1 ∨ d2 ∨ w = 0) = (d1 ∨ d2) by simp only [hw0, or_false]] at k3
                    exact k3)) hz hlt (by omega)
                · rw [if_neg h47]
                  exact go (jl_step hv hE1 e12 hw hz (jl_div_rg _ _).2 (fun d1 d2 k1 k2 => by
                    rw [jl_tim_37 (by omega)]
                    have k3 := jl_val_div k1 k2 (o := 6) (by omega)
                    rw [show (d1 ∨ d2 ∨ w = 0) = (d1 ∨ d2) by simp only [hw0, or_false]] at k3
                    exact k3)) hz hlt (by omega)
            · have hc6 : (jk_h b m (τ 43 0)) = 42 := Classical.not_not.mp hc6
              refine jw_W_n 4 (i' := 60) (ls' := [some (.inr (.inr 42)), some (.inl o), some (.inl a), some (.inl v), some (.inl (jk_h b m (τ 43 0))), some (.inl w)]) (st' := [.inl (v * w)]) rfl ?_
              refine jl_W_n ?_
              refine jw_W_n 2 (i' := 5) (ls' := [some (.inr (.inr 42)), some (.inl o), some (.inl a), some (.inl (jw_n (v * w))), some (.inl (jk_h b m (τ 43 0))), some (.inl w)]) (st' := []) rfl ?_
              exact go (jl_step hv hE1 e12 hw hz (jl_n_rg _) (fun d1 d2 k1 k2 => by
                rw [jl_tim_42 (by omega)]
                exact jl_val_bin k1 k2 (by omega) (by omega))) hz hlt (by omega)
          · have hc5 : ¬ ((jk_h b m (τ 43 0)) = 47) := hc5
            refine jw_W_n 1 (i' := 27) (ls' := [some (.inr (.inr 42)), some (.inl o), some (.inl a), some (.inl v), x4, x5]) (st' := [.inr (.inr 42)]) rfl ?_
            refine jw_W_gf rfl rfl rfl ?_
            show jw_W (js_S n) _ md_54 28 [some (.inr (.inr 42)), some (.inl o), some (.inl a), some (.inl v), x4, x5] [.inr (.inr 43)] τ _
            refine jw_W_call (as := [.inr (.inr 43)]) (rest := []) rfl rfl rfl rfl (Nat.le_of_ble_eq_true rfl) (.inr rfl) (jl_here hX) (by omega) ?_ rfl
            rintro r1 σz ⟨rfl, hs⟩
            rw [hs]
            show jw_W (js_S n) _ md_54 29 [some (.inr (.inr 42)), some (.inl o), some (.inl a), some (.inl v), x4, x5] [.inl (jk_h b m (τ 43 0))] τ _
            refine jw_W_n 1 (i' := 30) (ls' := [some (.inr (.inr 42)), some (.inl o), some (.inl a), some (.inl v), x4, x5]) (st' := [.inl 37, .inl (jk_h b m (τ 43 0))]) rfl ?_
            refine jw_W_ic rfl (by unfold jw_rg; omega) (by unfold jw_rg; omega) (fun hc7 => ?_) (fun hc7 => ?_)
            · have hc7 : (jk_h b m (τ 43 0)) ≠ 37 := hc7
              refine jw_W_n 1 (i' := 63) (ls' := [some (.inr (.inr 42)), some (.inl o), some (.inl a), some (.inl v), x4, x5]) (st' := [.inl v]) rfl ?_
              refine jw_W_ir rfl ?_
              exact stop (by omega)
            · have hc7 : (jk_h b m (τ 43 0)) = 37 := Classical.not_not.mp hc7
              refine jw_W_n 1 (i' := 32) (ls' := [some (.inr (.inr 42)), some (.inl o), some (.inl a), some (.inl v), x4, x5]) (st' := [.inr (.inr 42)]) rfl ?_
              refine jw_W_gf rfl rfl rfl ?_
              show jw_W (js_S n) _ md_54 33 [some (.inr (.inr 42)), some (.inl o), some (.inl a), some (.inl v), x4, x5] [.inr (.inr 43)] τ _
              refine jw_W_call (as := [.inr (.inr 43)]) (rest := []) rfl rfl rfl rfl (Nat.le_of_ble_eq_true rfl) (.inr rfl) (jl_here hX) (by omega) ?_ rfl
              rintro r1 σz ⟨rfl, hs⟩
              rw [hs]
              show jw_W (js_S n) _ md_54 34 [some (.inr (.inr 42)), some (.inl o), some (.inl a), some (.inl v), x4, x5] [.inl (jk_h b m (τ 43 0))] τ _
              refine jw_W_n 2 (i' := 36) (ls' := [some (.inr (.inr 42)), some (.inl o), some (.inl a), some (.inl v), some (.inl (jk_h b m (τ 43 0))), x5]) (st' := [.inr (.inr 42)]) rfl ?_
              refine jw_W_gf rfl rfl rfl ?_
              show jw_W (js_S n) _ md_54 37 [some (.inr (.inr 42)), some (.inl o), some (.inl a), some (.inl v), some (.inl (jk_h b m (τ 43 0))), x5] [.inr (.inr 43)] τ _
              refine jw_W_n 1 (i' := 38) (ls' := [some (.inr (.inr 42)), some (.inl o), some (.inl a), some (.inl v), some (.inl (jk_h b m (τ 43 0))), x5]) (st' := [.inr (.inr 43), .inr (.inr 43)]) rfl ?_
              refine jw_W_gf rfl rfl rfl ?_
              show jw_W (js_S n) _ md_54 39 [some (.inr (.inr 42)), some (.inl o), some (.inl a), some (.inl v), some (.inl (jk_h b m (τ 43 0))), x5] [.inl (τ 43 0), .inr (.inr 43)] τ _
              refine jw_W_n 2 (i' := 41) (ls' := [some (.inr (.inr 42)), some (.inl o), some (.inl a), some (.inl v), some (.inl (jk_h b m (τ 43 0))), x5]) (st' := [.inl (τ 43 0 + 1), .inr (.inr 43)]) rfl ?_
              refine jw_W_pf (a := τ 43 0 + 1) rfl (by omega) rfl rfl rfl rfl rfl ?_
              obtain ⟨σ1, hs1⟩ : ∃ s : jw_H, s = jw_up τ 43 0 (τ 43 0 + 1) := ⟨_, rfl⟩
              show jw_W (js_S n) _ _ _ _ _ (jw_up τ 43 0 (τ 43 0 + 1)) _
              rw [← hs1]
              have hE1 : jl_E b m e τ σ1 := by rw [hs1]; exact jl_E_to hX (by have := hh.2.2 (by omega); omega)
              have e10 : σ1 43 0 = τ 43 0 + 1 := by rw [hs1, jw_up_eq]
              have e12 : σ1 43 2 = τ 43 2 := by rw [hs1, jw_up_ne _ (by omega)]
              have hz : τ 43 2 = 0 := by omega
              have hlt : τ 43 0 < τ 43 1 := by omega
              refine jw_W_n 3 (i' := 45) (ls' := [some (.inr (.inr 42)), some (.inl o), some (.inl a), some (.inl v), some (.inl (jk_h b m (τ 43 0))), x5]) (st' := [.inl a, .inl o, .inr (.inr 42)]) rfl ?_
              refine jw_W_call (as := [.inr (.inr 42), .inl o, .inl a]) (rest := []) rfl rfl rfl rfl (Nat.le_of_ble_eq_true rfl) (.inr rfl) (hI σ1 a hE1.1 ha) (by omega) ?_ rfl
              rintro r1 σ2 ⟨w, rfl, hw⟩
              rename jw_H => σ2
              rw [e10] at hw
              have hw : jl_sw b m e jl_rgV (jl_fac b m G k (τ 43 0 + 1)) a w σ1 σ2 := hw
              have hrw : jw_rg w := hw.1
              have hrw2 := hrw
              unfold jw_rg at hrw2
              have hX2 := hw.2.1
              show jw_W (js_S n) _ md_54 46 [some (.inr (.inr 42)), some (.inl o), some (.inl a), some (.inl v), some (.inl (jk_h b m (τ 43 0))), x5] [.inl w] σ2 _
              refine jw_W_n 3 (i' := 49) (ls' := [some (.inr (.inr 42)), some (.inl o), some (.inl a), some (.inl v), some (.inl (jk_h b m (τ 43 0))), some (.inl w)]) (st' := [.inl 42, .inl (jk_h b m (τ 43 0))]) rfl ?_
              refine jw_W_ic rfl (by unfold jw_rg; omega) (by unfold jw_rg; omega) (fun hc8 => ?_) (fun hc8 => ?_)
              · have hc8 : (jk_h b m (τ 43 0)) ≠ 42 := hc8
                refine jw_W_n 5 (i' := 59) (ls' := [some (.inr (.inr 42)), some (.inl o), some (.inl a), some (.inl v), some (.inl (jk_h b m (τ 43 0))), some (.inl w)]) (st' := [.inl a, .inl (jk_h b m (τ 43 0)), .inl w, .inl v, .inr (.inr 42)]) rfl ?_
                refine jw_W_call (as := [.inr (.inr 42), .inl v, .inl w, .inl (jk_h b m (τ 43 0)), .inl a]) (rest := []) rfl rfl rfl rfl (Nat.le_of_ble_eq_true rfl) (.inr rfl) (jl_divide hrw (by unfold jw_rg; omega) ha hX2.2.2.2.2.2.1) (by omega) ?_ rfl
                rintro r1 σ3 (⟨hw0, rfl, f0, hs3, hf⟩ | ⟨hw0, rfl, hs3⟩)
                · rename jw_H => σ3
                  show jw_W (js_S n) _ md_54 60 [some (.inr (.inr 42)), some (.inl o), some (.inl a), some (.inl v), some (.inl (jk_h b m (τ 43 0))), some (.inl w)] [.inl 0] σ3 _
                  refine jw_W_n 2 (i' := 5) (ls' := [some (.inr (.inr 42)), some (.inl o), some (.inl a), some (.inl 0), some (.inl (jk_h b m (τ 43 0))), some (.inl w)]) (st' := []) rfl ?_
                  rw [hs3]
                  refine go (jl_step0 hv hE1 e12 hw hz (by show jw_rg 0; unfold jw_rg; omega) hf ha (fun d1 d2 k1 k2 => ⟨_, .inr (.inr hw0), jl_val_any (.inr (.inr hw0)) (jl_val_div k1 k2 ?_)⟩)) hz hlt (by omega)
                  unfold jl_tim
                  repeat' split
                  all_goals omega
                · rw [hs3]
                  show jw_W (js_S n) _ md_54 60 [some (.inr (.inr 42)), some (.inl o), some (.inl a), some (.inl v), some (.inl (jk_h b m (τ 43 0))), some (.inl w)] [.inl (if jk_h b m (τ 43 0) = 47 then jw_div v w else jw_rem v w)] σ2 _
                  refine jw_W_n 2 (i' := 5) (ls' := [some (.inr (.inr 42)), some (.inl o), some (.inl a), some (.inl (if jk_h b m (τ 43 0) = 47 then jw_div v w else jw_rem v w)), some (.inl (jk_h b m (τ 43 0))), some (.inl w)]) (st' := []) rfl ?_
                  by_cases h47 : jk_h b m (τ 43 0) = 47
                  · rw [if_pos h47]
                    exact go (jl_step hv hE1 e12 hw hz (jl_div_rg _ _).1 (fun d1 d2 k1 k2 => by
                      rw [jl_tim_47 h47]
                      have k3 := jl_val_div k1 k2 (o := 5) (by omega)
                      rw [show (d1 ∨ d2 ∨ w = 0) = (d1 ∨ d2) by simp only [hw0, or_false]] at k3
                      exact k3)) hz hlt (by omega)
                  · rw [if_neg h47]
                    exact go (jl_step hv hE1 e12 hw hz (jl_div_rg _ _).2 (fun d1 d2 k1 k2 => by
                      rw [jl_tim_37 (by omega)]
                      have k3 := jl_val_div k1 k2 (o := 6) (by omega)
                      rw [show (d1 ∨ d2 ∨ w = 0) = (d1 ∨ d2) by simp only [hw0, or_false]] at k3
                      exact k3)) hz hlt (by omega)
              · have hc8 : (jk_h b m (τ 43 0)) = 42 := Classical.not_not.mp hc8
                refine jw_W_n 4 (i' := 60) (ls' := [some (.inr (.inr 42)), some (.inl o), some (.inl a), some (.inl v), some (.inl (jk_h b m (τ 43 0))), some (.inl w)]) (st' := [.inl (v * w)]) rfl ?_
                refine jl_W_n ?_
                refine jw_W_n 2 (i' := 5) (ls' := [some (.inr (.inr 42)), some (.inl o), some (.inl a), some (.inl (jw_n (v * w))), some (.inl (jk_h b m (τ 43 0))), some (.inl w)]) (st' := []) rfl ?_
                exact go (jl_step hv hE1 e12 hw hz (jl_n_rg _) (fun d1 d2 k1 k2 => by
                  rw [jl_tim_42 (by omega)]
                  exact jl_val_bin k1 k2 (by omega) (by omega))) hz hlt (by omega)
theorem jl_sum_loop {n : Nat} {σ : jw_H} {b : Int → Int} {m : Int} {e : Int → Int} {G : Int → jl_R} (hG : ∀ i, 0 ≤ i → jl_ok m i (G i)) {k D : Nat} {o a : Int} (hI : jl_ms n b m e jl_rgV D 54 o (jl_prod b m G k)) (hD : 5 ≤ D) (ha : a = 0 ∨ a = 1) : ∀ (f : Nat) {R : jl_R} {τ : jw_H} {v : Int} {x4 x5 : Option jw_V}, jl_sw b m e jl_rgV R a v σ τ → jl_ok m (-1) R → (R.1 = 0 → m < R.2.1 + f) → jw_W (js_S n) D md_53 5 [some (.inr (.inr 42)), some (.inl o), some (.inl a), some (.inl v), x4, x5] [] τ (fun r σ' => ∃ u, r = some (.inl u) ∧ jl_sw b m e jl_rgV (jl_sml b m G k f R) a u σ σ')
  | f, R, τ, v, x4, x5, hv, hok, hfu => by
    have hX := hv.2.1
    have h4 := hX.2.2.1
    have h5 := hX.2.2.2.1
    have h3 := hX.2.1
    have h6 := hX.2.2.2.2.1
    have hh := jl_X_h hX h4.1
    have hN : ¬ (τ 43 0 < m) → jk_h b m (τ 43 0) = -1 := fun hh => jk_h_out (by omega)
    have htim : jl_sgn (jk_h b m (τ 43 0)) ≠ 0 ↔ jk_h b m (τ 43 0) = 43 ∨ jk_h b m (τ 43 0) = 45 := by
      unfold jl_sgn
      repeat' split
      all_goals omega
    have stop : (τ 43 2 ≠ 0 ∨ ¬ (τ 43 0 < τ 43 1) ∨ ¬ (jk_h b m (τ 43 0) = 43 ∨ jk_h b m (τ 43 0) = 45)) → ∃ u, some (Sum.inl v : jw_V) = some (.inl u) ∧ jl_sw b m e jl_rgV (jl_sml b m G k f R) a u σ τ := by
      intro hc
      refine ⟨v, rfl, jl_sw_ch hv (fun hz => ?_)⟩
      obtain ⟨f1, f2⟩ := hv.2.2.2.2 hz
      refine (jl_sml_no (fun hq => ?_) f).symm
      have e0 := (f2 hq.1).1
      rw [← e0] at hq
      rcases hc with hc | hc | hc
      · omega
      · have h7 := hN (by omega)
        rw [h7] at hq
        exact hq.2 (by decide)
      · exact hc (htim.mp hq.2)
    have go : ∀ {τ' : jw_H} {w : Int} {y4 y5 : Option jw_V}, jl_sw b m e jl_rgV ((jl_prod b m G k (τ 43 0 + 1)).1, (jl_prod b m G k (τ 43 0 + 1)).2.1, R.2.2 ++ (jl_prod b m G k (τ 43 0 + 1)).2.2 ++ [(jl_sgn (jk_h b m (τ 43 0)), 0)]) a w σ τ' → τ 43 2 = 0 → τ 43 0 < τ 43 1 → (jk_h b m (τ 43 0) = 43 ∨ jk_h b m (τ 43 0) = 45) → jw_W (js_S n) D md_53 5 [some (.inr (.inr 42)), some (.inl o), some (.inl a), some (.inl w), y4, y5] [] τ' (fun r σ' => ∃ u, r = some (.inl u) ∧ jl_sw b m e jl_rgV (jl_sml b m G k f R) a u σ σ') := by
      intro τ' w y4 y5 hs hz hlt hsg
      have hz3 : σ 43 2 = 0 := Classical.byContradiction (fun q => by have := hv.2.2.1.2.2.1 q; omega)
      obtain ⟨f1, f2⟩ := hv.2.2.2.2 hz3
      have hz1 : R.1 = 0 := by omega
      have e0 := (f2 hz1).1
      have hf2 := hfu hz1
      match f, hf2 with
      | 0, hf2 => omega
      | f + 1, hf2 =>
        have e1 : jl_sml b m G k (f + 1) R = jl_sml b m G k f ((jl_prod b m G k (R.2.1 + 1)).1, (jl_prod b m G k (R.2.1 + 1)).2.1, R.2.2 ++ (jl_prod b m G k (R.2.1 + 1)).2.2 ++ [(jl_sgn (jk_h b m R.2.1), 0)]) := if_pos ⟨hz1, by rw [← e0]; exact htim.mpr hsg⟩
        rw [e1]
        rw [e0] at hs
        have hrk := jl_ok_prod (b := b) (m := m) (k := k) hG (i := R.2.1 + 1) (by omega)
        refine jl_sum_loop hG hI hD ha f hs (fun h => ?_) (fun h => ?_)
        · have := hrk h
          exact ⟨by show -1 < (jl_prod b m G k (R.2.1 + 1)).2.1; omega, this.2⟩
        · have := hrk h
          show m < (jl_prod b m G k (R.2.1 + 1)).2.1 + (f : Int)
          omega
    refine jw_W_n 1 (i' := 6) (ls' := [some (.inr (.inr 42)), some (.inl o), some (.inl a), some (.inl v), x4, x5]) (st' := [.inr (.inr 42)]) rfl ?_
    refine jw_W_gf rfl rfl rfl ?_
    show jw_W (js_S n) _ md_53 7 [some (.inr (.inr 42)), some (.inl o), some (.inl a), some (.inl v), x4, x5] [.inr (.inr 43)] τ _
    refine jw_W_gf rfl rfl rfl ?_
    show jw_W (js_S n) _ md_53 8 [some (.inr (.inr 42)), some (.inl o), some (.inl a), some (.inl v), x4, x5] [.inl (τ 43 2)] τ _
    refine jw_W_if rfl (by unfold jw_rg; omega) (fun hc1 => ?_) (fun hc1 => ?_)
    · have hc1 : (τ 43 2) ≠ 0 := hc1
      refine jw_W_n 1 (i' := 55) (ls' := [some (.inr (.inr 42)), some (.inl o), some (.inl a), some (.inl v), x4, x5]) (st' := [.inl v]) rfl ?_
      refine jw_W_ir rfl ?_
      exact stop (by omega)
    · have hc1 : (τ 43 2) = 0 := Classical.not_not.mp hc1
      refine jw_W_n 1 (i' := 10) (ls' := [some (.inr (.inr 42)), some (.inl o), some (.inl a), some (.inl v), x4, x5]) (st' := [.inr (.inr 42)]) rfl ?_
      refine jw_W_gf rfl rfl rfl ?_
      show jw_W (js_S n) _ md_53 11 [some (.inr (.inr 42)), some (.inl o), some (.inl a), some (.inl v), x4, x5] [.inr (.inr 43)] τ _
      refine jw_W_gf rfl rfl rfl ?_
      show jw_W (js_S n) _ md_53 12 [some (.inr (.inr 42)), some (.inl o), some (.inl a), some (.inl v), x4, x5] [.inl (τ 43 0)] τ _
      refine jw_W_n 1 (i' := 13) (ls' := [some (.inr (.inr 42)), some (.inl o), some (.inl a), some (.inl v), x4, x5]) (st' := [.inr (.inr 42), .inl (τ 43 0)]) rfl ?_
      refine jw_W_gf rfl rfl rfl ?_
      show jw_W (js_S n) _ md_53 14 [some (.inr (.inr 42)), some (.inl o), some (.inl a), some (.inl v), x4, x5] [.inr (.inr 43), .inl (τ 43 0)] τ _
      refine jw_W_gf rfl rfl rfl ?_
      show jw_W (js_S n) _ md_53 15 [some (.inr (.inr 42)), some (.inl o), some (.inl a), some (.inl v), x4, x5] [.inl (τ 43 1), .inl (τ 43 0)] τ _
      refine jw_W_ic rfl (by unfold jw_rg; omega) (by unfold jw_rg; omega) (fun hc2 => ?_) (fun hc2 => ?_)
      · have hc2 : (τ 43 0) ≥ (τ 43 1) := hc2
        refine jw_W_n 1 (i' := 55) (ls' := [some (.inr (.inr 42)), some (.inl o), some (.inl a), some (.inl v), x4, x5]) (st' := [.inl v]) rfl ?_
        refine jw_W_ir rfl ?_
        exact stop (by omega)
      · have hc2 : ¬ ((τ 43 0) ≥ (τ 43 1)) := hc2
        refine jw_W_n 1 (i' := 17) (ls' := [some (.inr (.inr 42)), some (.inl o), some (.inl a), some (.inl v), x4, x5]) (st' := [.inr (.inr 42)]) rfl ?_
        refine jw_W_gf rfl rfl rfl ?_
        show jw_W (js_S n) _ md_53 18 [some (.inr (.inr 42)), some (.inl o), some (.inl a), some (.inl v), x4, x5] [.inr (.inr 43)] τ _
        refine jw_W_call (as := [.inr (.inr 43)]) (rest := []) rfl rfl rfl rfl (Nat.le_of_ble_eq_true rfl) (.inr rfl) (jl_here hX) (by omega) ?_ rfl
        rintro r1 σz ⟨rfl, hs⟩
        rw [hs]
        show jw_W (js_S n) _ md_53 19 [some (.inr (.inr 42)), some (.inl o), some (.inl a), some (.inl v), x4, x5] [.inl (jk_h b m (τ 43 0))] τ _
        refine jw_W_n 1 (i' := 20) (ls' := [some (.inr (.inr 42)), some (.inl o), some (.inl a), some (.inl v), x4, x5]) (st' := [.inl 43, .inl (jk_h b m (τ 43 0))]) rfl ?_
        refine jw_W_ic rfl (by unfold jw_rg; omega) (by unfold jw_rg; omega) (fun hc3 => ?_) (fun hc3 => ?_)
        · have hc3 : (jk_h b m (τ 43 0)) = 43 := hc3
          refine jw_W_n 1 (i' := 27) (ls' := [some (.inr (.inr 42)), some (.inl o), some (.inl a), some (.inl v), x4, x5]) (st' := [.inr (.inr 42)]) rfl ?_
          refine jw_W_gf rfl rfl rfl ?_
          show jw_W (js_S n) _ md_53 28 [some (.inr (.inr 42)), some (.inl o), some (.inl a), some (.inl v), x4, x5] [.inr (.inr 43)] τ _
          refine jw_W_call (as := [.inr (.inr 43)]) (rest := []) rfl rfl rfl rfl (Nat.le_of_ble_eq_true rfl) (.inr rfl) (jl_here hX) (by omega) ?_ rfl
          rintro r1 σz ⟨rfl, hs⟩
          rw [hs]
          show jw_W (js_S n) _ md_53 29 [some (.inr (.inr 42)), some (.inl o), some (.inl a), some (.inl v), x4, x5] [.inl (jk_h b m (τ 43 0))] τ _
          refine jw_W_n 2 (i' := 31) (ls' := [some (.inr (.inr 42)), some (.inl o), some (.inl a), some (.inl v), some (.inl (jk_h b m (τ 43 0))), x5]) (st' := [.inr (.inr 42)]) rfl ?_
          refine jw_W_gf rfl rfl rfl ?_
          show jw_W (js_S n) _ md_53 32 [some (.inr (.inr 42)), some (.inl o), some (.inl a), some (.inl v), some (.inl (jk_h b m (τ 43 0))), x5] [.inr (.inr 43)] τ _
          refine jw_W_n 1 (i' := 33) (ls' := [some (.inr (.inr 42)), some (.inl o), some (.inl a), some (.inl v), some (.inl (jk_h b m (τ 43 0))), x5]) (st' := [.inr (.inr 43), .inr (.inr 43)]) rfl ?_
          refine jw_W_gf rfl rfl rfl ?_
          show jw_W (js_S n) _ md_53 34 [some (.inr (.inr 42)), some (.inl o), some (.inl a), some (.inl v), some (.inl (jk_h b m (τ 43 0))), x5] [.inl (τ 43 0), .inr (.inr 43)] τ _
          refine jw_W_n 2 (i' := 36) (ls' := [some (.inr (.inr 42)), some (.inl o), some (.inl a), some (.inl v), some (.inl (jk_h b m (τ 43 0))), x5]) (st' := [.inl (τ 43 0 + 1), .inr (.inr 43)]) rfl ?_
          refine jw_W_pf (a := τ 43 0 + 1) rfl (by omega) rfl rfl rfl rfl rfl ?_
          obtain ⟨σ1, hs1⟩ : ∃ s : jw_H, s = jw_up τ 43 0 (τ 43 0 + 1) := ⟨_, rfl⟩
          show jw_W (js_S n) _ _ _ _ _ (jw_up τ 43 0 (τ 43 0 + 1)) _
          rw [← hs1]
          have hE1 : jl_E b m e τ σ1 := by rw [hs1]; exact jl_E_to hX (by have := hh.2.2 (by omega); omega)
          have e10 : σ1 43 0 = τ 43 0 + 1 := by rw [hs1, jw_up_eq]
          have e12 : σ1 43 2 = τ 43 2 := by rw [hs1, jw_up_ne _ (by omega)]
          have hz : τ 43 2 = 0 := by omega
          have hlt : τ 43 0 < τ 43 1 := by omega
          refine jw_W_n 3 (i' := 40) (ls' := [some (.inr (.inr 42)), some (.inl o), some (.inl a), some (.inl v), some (.inl (jk_h b m (τ 43 0))), x5]) (st' := [.inl a, .inl o, .inr (.inr 42)]) rfl ?_
          refine jw_W_call (as := [.inr (.inr 42), .inl o, .inl a]) (rest := []) rfl rfl rfl rfl (Nat.le_of_ble_eq_true rfl) (.inr rfl) (hI σ1 a hE1.1 ha) (by omega) ?_ rfl
          rintro r1 σ2 ⟨w, rfl, hw⟩
          rename jw_H => σ2
          rw [e10] at hw
          have hw : jl_sw b m e jl_rgV (jl_prod b m G k (τ 43 0 + 1)) a w σ1 σ2 := hw
          have hrw : jw_rg w := hw.1
          have hrw2 := hrw
          unfold jw_rg at hrw2
          have hX2 := hw.2.1
          show jw_W (js_S n) _ md_53 41 [some (.inr (.inr 42)), some (.inl o), some (.inl a), some (.inl v), some (.inl (jk_h b m (τ 43 0))), x5] [.inl w] σ2 _
          refine jw_W_n 3 (i' := 44) (ls' := [some (.inr (.inr 42)), some (.inl o), some (.inl a), some (.inl v), some (.inl (jk_h b m (τ 43 0))), some (.inl w)]) (st' := [.inl 43, .inl (jk_h b m (τ 43 0))]) rfl ?_
          refine jw_W_ic rfl (by unfold jw_rg; omega) (by unfold jw_rg; omega) (fun hc4 => ?_) (fun hc4 => ?_)
          · have hc4 : (jk_h b m (τ 43 0)) ≠ 43 := hc4
            refine jw_W_n 3 (i' := 52) (ls' := [some (.inr (.inr 42)), some (.inl o), some (.inl a), some (.inl v), some (.inl (jk_h b m (τ 43 0))), some (.inl w)]) (st' := [.inl (v - w)]) rfl ?_
            refine jl_W_n ?_
            refine jw_W_n 2 (i' := 5) (ls' := [some (.inr (.inr 42)), some (.inl o), some (.inl a), some (.inl (jw_n (v - w))), some (.inl (jk_h b m (τ 43 0))), some (.inl w)]) (st' := []) rfl ?_
            exact go (jl_step hv hE1 e12 hw hz (jl_n_rg _) (fun d1 d2 k1 k2 => by
              rw [jl_sgn_45 (by omega)]
              exact jl_val_bin k1 k2 (by omega) (by omega))) hz hlt (by omega)
          · have hc4 : (jk_h b m (τ 43 0)) = 43 := Classical.not_not.mp hc4
            refine jw_W_n 4 (i' := 52) (ls' := [some (.inr (.inr 42)), some (.inl o), some (.inl a), some (.inl v), some (.inl (jk_h b m (τ 43 0))), some (.inl w)]) (st' := [.inl (v + w)]) rfl ?_
            refine jl_W_n ?_
            refine jw_W_n 2 (i' := 5) (ls' := [some (.inr (.inr 42)), some (.inl o), some (.inl a), some (.inl (jw_n (v + w))), some (.inl (jk_h b m (τ 43 0))), some (.inl w)]) (st' := []) rfl ?_
            exact go (jl_step hv hE1 e12 hw hz (jl_n_rg _) (fun d1 d2 k1 k2 => by
              rw [jl_sgn_43 (by omega)]
              exact jl_val_bin k1 k2 (by omega) (by omega))) hz hlt (by omega)
        · have hc3 : ¬ ((jk_h b m (τ 43 0)) = 43) := hc3
          refine jw_W_n 1 (i' := 22) (ls' := [some (.inr (.inr 42)), some (.inl o), some (.inl a), some (.inl v), x4, x5]) (st' := [.inr (.inr 42)]) rfl ?_
          refine jw_W_gf rfl rfl rfl ?_
          show jw_W (js_S n) _ md_53 23 [some (.inr (.inr 42)), some (.inl o), some (.inl a), some (.inl v), x4, x5] [.inr (.inr 43)] τ _
          refine jw_W_call (as := [.inr (.inr 43)]) (rest := []) rfl rfl rfl rfl (Nat.le_of_ble_eq_true rfl) (.inr rfl) (jl_here hX) (by omega) ?_ rfl
          rintro r1 σz ⟨rfl, hs⟩
          rw [hs]
          show jw_W (js_S n) _ md_53 24 [some (.inr (.inr 42)), some (.inl o), some (.inl a), some (.inl v), x4, x5] [.inl (jk_h b m (τ 43 0))] τ _
          refine jw_W_n 1 (i' := 25) (ls' := [some (.inr (.inr 42)), some (.inl o), some (.inl a), some (.inl v), x4, x5]) (st' := [.inl 45, .inl (jk_h b m (τ 43 0))]) rfl ?_
          refine jw_W_ic rfl (by unfold jw_rg; omega) (by unfold jw_rg; omega) (fun hc5 => ?_) (fun hc5 => ?_)
          · have hc5 : (jk_h b m (τ 43 0)) ≠ 45 := hc5
            refine jw_W_n 1 (i' := 55) (ls' := [some (.inr (.inr 42)), some (.inl o), some (.inl a), some (.inl v), x4, x5]) (st' := [.inl v]) rfl ?_
            refine jw_W_ir rfl ?_
            exact stop (by omega)
          · have hc5 : (jk_h b m (τ 43 0)) = 45 := Classical.not_not.mp hc5
            refine jw_W_n 1 (i' := 27) (ls' := [some (.inr (.inr 42)), some (.inl o), some (.inl a), some (.inl v), x4, x5]) (st' := [.inr (.inr 42)]) rfl ?_
            refine jw_W_gf rfl rfl rfl ?_
            show jw_W (js_S n) _ md_53 28 [some (.inr (.inr 42)), some (.inl o), some (.inl a), some (.inl v), x4, x5] [.inr (.inr 43)] τ _
            refine jw_W_call (as := [.inr (.inr 43)]) (rest := []) rfl rfl rfl rfl (Nat.le_of_ble_eq_true rfl) (.inr rfl) (jl_here hX) (by omega) ?_ rfl
            rintro r1 σz ⟨rfl, hs⟩
            rw [hs]
            show jw_W (js_S n) _ md_53 29 [some (.inr (.inr 42)), some (.inl o), some (.inl a), some (.inl v), x4, x5] [.inl (jk_h b m (τ 43 0))] τ _
            refine jw_W_n 2 (i' := 31) (ls' := [some (.inr (.inr 42)), some (.inl o), some (.inl a), some (.inl v), some (.inl (jk_h b m (τ 43 0))), x5]) (st' := [.inr (.inr 42)]) rfl ?_
            refine jw_W_gf rfl rfl rfl ?_
            show jw_W (js_S n) _ md_53 32 [some (.inr (.inr 42)), some (.inl o), some (.inl a), some (.inl v), some (.inl (jk_h b m (τ 43 0))), x5] [.inr (.inr 43)] τ _
            refine jw_W_n 1 (i' := 33) (ls' := [some (.inr (.inr 42)), some (.inl o), some (.inl a), some (.inl v), some (.inl (jk_h b m (τ 43 0))), x5]) (st' := [.inr (.inr 43), .inr (.inr 43)]) rfl ?_
            refine jw_W_gf rfl rfl rfl ?_
            show jw_W (js_S n) _ md_53 34 [some (.inr (.inr 42)), some (.inl o), some (.inl a), some (.inl v), some (.inl (jk_h b m (τ 43 0))), x5] [.inl (τ 43 0), .inr (.inr 43)] τ _
            refine jw_W_n 2 (i' := 36) (ls' := [some (.inr (.inr 42)), some (.inl o), some (.inl a), some (.inl v), some (.inl (jk_h b m (τ 43 0))), x5]) (st' := [.inl (τ 43 0 + 1), .inr (.inr 43)]) rfl ?_
            refine jw_W_pf (a := τ 43 0 + 1) rfl (by omega) rfl rfl rfl rfl rfl ?_
            obtain ⟨σ1, hs1⟩ : ∃ s : jw_H, s = jw_up τ 43 0 (τ 43 0 + 1) := ⟨_, rfl⟩
            show jw_W (js_S n) _ _ _ _ _ (jw_up τ 43 0 (τ 43 0 + 1)) _
            rw [← hs1]
            have hE1 : jl_E b m e τ σ1 := by rw [hs1]; exact jl_E_to hX (by have := hh.2.2 (by omega); omega)
            have e10 : σ1 43 0 = τ 43 0 + 1 := by rw [hs1, jw_up_eq]
            have e12 : σ1 43 2 = τ 43 2 := by rw [hs1, jw_up_ne _ (by omega)]
            have hz : τ 43 2 = 0 := by omega
            have hlt : τ 43 0 < τ 43 1 := by omega
            refine jw_W_n 3 (i' := 40) (ls' := [some (.inr (.inr 42)), some (.inl o), some (.inl a), some (.inl v), some (.inl (jk_h b m (τ 43 0))), x5]) (st' := [.inl a, .inl o, .inr (.inr 42)]) rfl ?_
            refine jw_W_call (as := [.inr (.inr 42), .inl o, .inl a]) (rest := []) rfl rfl rfl rfl (Nat.le_of_ble_eq_true rfl) (.inr rfl) (hI σ1 a hE1.1 ha) (by omega) ?_ rfl
            rintro r1 σ2 ⟨w, rfl, hw⟩
            rename jw_H => σ2
            rw [e10] at hw
            have hw : jl_sw b m e jl_rgV (jl_prod b m G k (τ 43 0 + 1)) a w σ1 σ2 := hw
            have hrw : jw_rg w := hw.1
            have hrw2 := hrw
            unfold jw_rg at hrw2
            have hX2 := hw.2.1
            show jw_W (js_S n) _ md_53 41 [some (.inr (.inr 42)), some (.inl o), some (.inl a), some (.inl v), some (.inl (jk_h b m (τ 43 0))), x5] [.inl w] σ2 _
            refine jw_W_n 3 (i' := 44) (ls' := [some (.inr (.inr 42)), some (.inl o), some (.inl a), some (.inl v), some (.inl (jk_h b m (τ 43 0))), some (.inl w)]) (st' := [.inl 43, .inl (jk_h b m (τ 43 0))]) rfl ?_
            refine jw_W_ic rfl (by unfold jw_rg; omega) (by unfold jw_rg; omega) (fun hc6 => ?_) (fun hc6 => ?_)
            · have hc6 : (jk_h b m (τ 43 0)) ≠ 43 := hc6
              refine jw_W_n 3 (i' := 52) (ls' := [some (.inr (.inr 42)), some (.inl o), some (.inl a), some (.inl v), some (.inl (jk_h b m (τ 43 0))), some (.inl w)]) (st' := [.inl (v - w)]) rfl ?_
              refine jl_W_n ?_
              refine jw_W_n 2 (i' := 5) (ls' := [some (.inr (.inr 42)), some (.inl o), some (.inl a), some (.inl (jw_n (v - w))), some (.inl (jk_h b m (τ 43 0))), some (.inl w)]) (st' := []) rfl ?_
              exact go (jl_step hv hE1 e12 hw hz (jl_n_rg _) (fun d1 d2 k1 k2 => by
                rw [jl_sgn_45 (by omega)]
                exact jl_val_bin k1 k2 (by omega) (by omega))) hz hlt (by omega)
            · have hc6 : (jk_h b m (τ 43 0)) = 43 := Classical.not_not.mp hc6
              refine jw_W_n 4 (i' := 52) (ls' := [some (.inr (.inr 42)), some (.inl o), some (.inl a), some (.inl v), some (.inl (jk_h b m (τ 43 0))), some (.inl w)]) (st' := [.inl (v + w)]) rfl ?_
              refine jl_W_n ?_
              refine jw_W_n 2 (i' := 5) (ls' := [some (.inr (.inr 42)), some (.inl o), some (.inl a), some (.inl (jw_n (v + w))), some (.inl (jk_h b m (τ 43 0))), some (.inl w)]) (st' := []) rfl ?_
              exact go (jl_step hv hE1 e12 hw hz (jl_n_rg _) (fun d1 d2 k1 k2 => by
                rw [jl_sgn_43 (by omega)]
                exact jl_val_bin k1 k2 (by omega) (by omega))) hz hlt (by omega)
theorem jl_product {n : Nat} {b : Int → Int} {m : Int} {e : Int → Int} {G : Int → jl_R} (hG : ∀ i, 0 ≤ i → jl_ok m i (G i)) {k D : Nat} {o : Int} (hI : jl_ms n b m e jl_rgV D 56 o (jl_fac b m G k)) (hD : 5 ≤ D) : jl_ms n b m e jl_rgV (D + 1) 54 o (jl_prod b m G k) := by
  intro σ a hX ha
  have h4 := hX.2.2.1
  have h5 := hX.2.2.2.1
  refine jw_T_of (D := D) (M := mm_54) rfl (Nat.le_of_ble_eq_true rfl) (ls0 := [some (.inr (.inr 42)), some (.inl o), some (.inl a), none, none, none]) rfl ?_ (by rintro _ _ ⟨_, rfl, -⟩; rfl)
  refine jw_W_n 3 (i' := 3) (ls' := [some (.inr (.inr 42)), some (.inl o), some (.inl a), none, none, none]) (st' := [.inl a, .inl o, .inr (.inr 42)]) rfl ?_
  refine jw_W_call (as := [.inr (.inr 42), .inl o, .inl a]) (rest := []) rfl rfl rfl rfl (Nat.le_of_ble_eq_true rfl) (.inr rfl) (hI σ a hX ha) (by omega) ?_ rfl
  rintro r1 σ2 ⟨w, rfl, hw⟩
  rename jw_H => σ2
  have hw : jl_sw b m e jl_rgV (jl_fac b m G k (σ 43 0)) a w σ σ2 := hw
  show jw_W (js_S n) _ md_54 4 [some (.inr (.inr 42)), some (.inl o), some (.inl a), none, none, none] [.inl w] σ2 _
  refine jw_W_n 1 (i' := 5) (ls' := [some (.inr (.inr 42)), some (.inl o), some (.inl a), some (.inl w), none, none]) (st' := []) rfl ?_
  have hrk := jl_ok_fac (b := b) (m := m) (k := k) hG (i := σ 43 0) (by omega)
  exact jl_prod_loop hG hI hD ha 300 hw (fun h => by have := hrk h; exact ⟨by omega, this.2⟩) (fun h => by have := hrk h; omega)
theorem jl_sumc {n : Nat} {b : Int → Int} {m : Int} {e : Int → Int} {G : Int → jl_R} (hG : ∀ i, 0 ≤ i → jl_ok m i (G i)) {k D : Nat} {o : Int} (hI : jl_ms n b m e jl_rgV D 54 o (jl_prod b m G k)) (hD : 5 ≤ D) : jl_ms n b m e jl_rgV (D + 1) 53 o (jl_sumG b m G k) := by
  intro σ a hX ha
  have h4 := hX.2.2.1
  have h5 := hX.2.2.2.1
  refine jw_T_of (D := D) (M := mm_53) rfl (Nat.le_of_ble_eq_true rfl) (ls0 := [some (.inr (.inr 42)), some (.inl o), some (.inl a), none, none, none]) rfl ?_ (by rintro _ _ ⟨_, rfl, -⟩; rfl)
  refine jw_W_n 3 (i' := 3) (ls' := [some (.inr (.inr 42)), some (.inl o), some (.inl a), none, none, none]) (st' := [.inl a, .inl o, .inr (.inr 42)]) rfl ?_
  refine jw_W_call (as := [.inr (.inr 42), .inl o, .inl a]) (rest := []) rfl rfl rfl rfl (Nat.le_of_ble_eq_true rfl) (.inr rfl) (hI σ a hX ha) (by omega) ?_ rfl
  rintro r1 σ2 ⟨w, rfl, hw⟩
  rename jw_H => σ2
  have hw : jl_sw b m e jl_rgV (jl_prod b m G k (σ 43 0)) a w σ σ2 := hw
  show jw_W (js_S n) _ md_53 4 [some (.inr (.inr 42)), some (.inl o), some (.inl a), none, none, none] [.inl w] σ2 _
  refine jw_W_n 1 (i' := 5) (ls' := [some (.inr (.inr 42)), some (.inl o), some (.inl a), some (.inl w), none, none]) (st' := []) rfl ?_
  have hrk := jl_ok_prod (b := b) (m := m) (k := k) hG (i := σ 43 0) (by omega)
  exact jl_sum_loop hG hI hD ha 300 hw (fun h => by have := hrk h; exact ⟨by omega, this.2⟩) (fun h => by have := hrk h; omega)
theorem jl_ok_S {b : Int → Int} {m : Int} : ∀ (k : Nat) {i : Int}, 0 ≤ i → jl_ok m i (jl_S b m k i)
  | 0, i, h => jl_ok_sumG (fun i _ h => absurd h (by show (-1 : Int) ≠ 0; omega)) h
  | k + 1, i, h => jl_ok_sumG (fun i h => jl_ok_S k h) h
/-- the class's sums, at each depth -/
theorem jl_readSum {n : Nat} {b : Int → Int} {m : Int} {e : Int → Int} : ∀ (k : Nat) {o : Int}, o + k = 6 → 0 ≤ o → jl_ms n b m e jl_rgV (8 + 3 * k) 53 o (jl_S b m k)
  | 0, o, ho, o0 => jl_sumc (fun i _ h => absurd h (by show (-1 : Int) ≠ 0; omega)) (jl_product (fun i _ h => absurd h (by show (-1 : Int) ≠ 0; omega)) (fun σ a hX ha => jl_factor (D := 5) ⟨by omega, o0⟩ (fun h => absurd rfl h) (by omega) hX ha) (by omega)) (by omega)
  | k + 1, o, ho, o0 => by
    have ih := jl_readSum (n := n) (b := b) (m := m) (e := e) k (o := o + 1) (by omega) (by omega)
    rw [show 8 + 3 * (k + 1) = 8 + 3 * k + 1 + 1 + 1 by omega]
    exact jl_sumc (fun i h => jl_ok_S k h) (jl_product (fun i h => jl_ok_S k h) (fun σ a hX ha => jl_factor (D := 8 + 3 * k) ⟨by omega, o0⟩ (fun _ => ih) (by omega) hX ha) (by omega)) (by omega)

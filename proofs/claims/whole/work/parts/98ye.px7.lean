/-! ===== the class: bounds filled ===== -/
/-- nothing but the bounds is written -/
def jx_fb (σ σ' : jw_H) : Prop := (∀ o, o ≠ 47 → (o < 53 ∨ 56 < o) → σ' o = σ o) ∧ ∀ j, j ≠ 1 → σ' 47 j = σ 47 j
theorem jx_fb_rf (σ : jw_H) : jx_fb σ σ := ⟨fun _ _ _ => rfl, fun _ _ => rfl⟩
theorem jx_fb_tr {σ σ1 σ2 : jw_H} (a : jx_fb σ σ1) (b : jx_fb σ1 σ2) : jx_fb σ σ2 := ⟨fun o h1 h2 => (b.1 o h1 h2).trans (a.1 o h1 h2), fun j h => (b.2 j h).trans (a.2 j h)⟩
/-- the store holds these bounds -/
def jx_bs (σ0 : jw_H) (L : List ge_R) (σ : jw_H) : Prop := jx_fb σ0 σ ∧ σ 47 1 = (L.length : Int) ∧ ∀ (i : Nat) (r : ge_R), L[i]? = some r → jx_rw σ (i : Int) = r
theorem jx_bs_RL {σ0 σ : jw_H} {L : List ge_R} (h : jx_bs σ0 L σ) : jx_RL σ = L := by
  apply List.ext_getElem?
  intro i
  unfold jx_RL
  rw [List.getElem?_map, h.2.1, Int.toNat_natCast]
  by_cases hi : i < L.length
  · rw [List.getElem?_range hi, List.getElem?_eq_getElem hi, Option.map_some, h.2.2 i _ (List.getElem?_eq_getElem hi)]
  · rw [List.getElem?_eq_none (by rw [List.length_range]; omega), List.getElem?_eq_none (by omega)]
    rfl
/-- one bound more -/
def jx_bo (σ : jw_H) (r : ge_R) : jw_H := jw_up (jw_up (jw_up (jw_up (jw_up σ 53 (σ 47 1) r.1) 54 (σ 47 1) r.2.1) 55 (σ 47 1) r.2.2.1) 56 (σ 47 1) r.2.2.2) 47 1 (σ 47 1 + 1)
theorem jx_bs_s {σ0 σ : jw_H} {L : List ge_R} (r : ge_R) (h : jx_bs σ0 L σ) : jx_bs σ0 (L ++ [r]) (jx_bo σ r) := by
  refine ⟨⟨fun o h1 h2 => ?_, fun j hj => ?_⟩, ?_, fun i x hx => ?_⟩
  · unfold jx_bo
    rw [jw_up_out _ _ _ (by omega), jw_up_out _ _ _ (by omega), jw_up_out _ _ _ (by omega), jw_up_out _ _ _ (by omega), jw_up_out _ _ _ (by omega)]
    exact h.1.1 o h1 h2
  · unfold jx_bo
    rw [jw_up_ne _ (by omega), jw_up_ne _ (by omega), jw_up_ne _ (by omega), jw_up_ne _ (by omega), jw_up_ne _ (by omega)]
    exact h.1.2 j hj
  · unfold jx_bo
    rw [jw_up_eq, List.length_append, h.2.1]
    rfl
  · have hl := h.2.1
    rw [List.getElem?_append] at hx
    split at hx
    · rename_i hi
      have e := h.2.2 i x hx
      rw [← e]
      unfold jx_rw jx_bo
      simp only [jw_up]
      rw [hl]
      simp only [show ¬ ((i : Int) = (L.length : Int)) by omega, and_false, if_false, show ¬ ((53 : Nat) = 47) by omega, show ¬ ((54 : Nat) = 47) by omega, show ¬ ((55 : Nat) = 47) by omega, show ¬ ((56 : Nat) = 47) by omega, false_and]
    · rename_i hi
      have hi2 : i = L.length := by
        by_cases e : i = L.length
        · exact e
        · rw [List.getElem?_eq_none (by simp; omega)] at hx
          cases hx
      subst hi2
      rw [Nat.sub_self] at hx
      cases hx
      unfold jx_rw jx_bo
      simp only [jw_up]
      rw [hl]
      simp
theorem jx_bound {n : Nat} {σ : jw_H} {x y z w : Int} (h0 : 0 ≤ σ 47 1) (h1 : σ 47 1 < 24) : jw_T (js_S n) 1 95 [.inr (.inr 47), .inl x, .inl y, .inl z, .inl w] σ (fun r σ' => r = none ∧ σ' = jx_bo σ (x, y, z, w)) := by
  refine jw_T_of (D := 0) (M := mm_95) rfl (Nat.le_of_ble_eq_true rfl) (ls0 := [some (.inr (.inr 47)), some (.inl x), some (.inl y), some (.inl z), some (.inl w)]) rfl ?_ (by rintro _ _ ⟨rfl, -⟩; rfl)
  refine jw_W_n 1 (i' := 1) (ls' := [some (.inr (.inr 47)), some (.inl x), some (.inl y), some (.inl z), some (.inl w)]) (st' := [.inr (.inr 47)]) rfl ?_
  refine jw_W_gf rfl rfl rfl ?_
  show jw_W (js_S n) _ md_95 2 [some (.inr (.inr 47)), some (.inl x), some (.inl y), some (.inl z), some (.inl w)] [.inl (σ 47 1)] σ _
  refine jw_W_n 1 (i' := 3) (ls' := [some (.inr (.inr 47)), some (.inl x), some (.inl y), some (.inl z), some (.inl w)]) (st' := [.inl 24, .inl (σ 47 1)]) rfl ?_
  refine jw_W_ic rfl (by unfold jw_rg; omega) (by unfold jw_rg; omega) (fun hc1 => ?_) (fun hc1 => ?_)
  · have hc1 : (σ 47 1) ≥ 24 := hc1
    refine jw_W_re rfl ?_
    omega
  · have hc1 : ¬ ((σ 47 1) ≥ 24) := hc1
    refine jw_W_n 1 (i' := 5) (ls' := [some (.inr (.inr 47)), some (.inl x), some (.inl y), some (.inl z), some (.inl w)]) (st' := [.inr (.inr 47)]) rfl ?_
    refine jw_W_gf rfl rfl rfl ?_
    show jw_W (js_S n) _ md_95 6 [some (.inr (.inr 47)), some (.inl x), some (.inl y), some (.inl z), some (.inl w)] [.inr (.inr 53)] σ _
    refine jw_W_n 1 (i' := 7) (ls' := [some (.inr (.inr 47)), some (.inl x), some (.inl y), some (.inl z), some (.inl w)]) (st' := [.inr (.inr 47), .inr (.inr 53)]) rfl ?_
    refine jw_W_gf rfl rfl rfl ?_
    show jw_W (js_S n) _ md_95 8 [some (.inr (.inr 47)), some (.inl x), some (.inl y), some (.inl z), some (.inl w)] [.inl (σ 47 1), .inr (.inr 53)] σ _
    refine jw_W_n 1 (i' := 9) (ls' := [some (.inr (.inr 47)), some (.inl x), some (.inl y), some (.inl z), some (.inl w)]) (st' := [.inl x, .inl (σ 47 1), .inr (.inr 53)]) rfl ?_
    refine jw_W_is rfl (by omega) rfl (by omega) (by omega) (by omega) ?_
    refine jw_W_n 1 (i' := 11) (ls' := [some (.inr (.inr 47)), some (.inl x), some (.inl y), some (.inl z), some (.inl w)]) (st' := [.inr (.inr 47)]) rfl ?_
    refine jw_W_gf rfl rfl rfl ?_
    show jw_W (js_S n) _ md_95 12 [some (.inr (.inr 47)), some (.inl x), some (.inl y), some (.inl z), some (.inl w)] [.inr (.inr 54)] ((jw_up σ 53 (σ 47 1) x)) _
    refine jw_W_n 1 (i' := 13) (ls' := [some (.inr (.inr 47)), some (.inl x), some (.inl y), some (.inl z), some (.inl w)]) (st' := [.inr (.inr 47), .inr (.inr 54)]) rfl ?_
    refine jw_W_gf rfl rfl rfl ?_
    show jw_W (js_S n) _ md_95 14 [some (.inr (.inr 47)), some (.inl x), some (.inl y), some (.inl z), some (.inl w)] [.inl (σ 47 1), .inr (.inr 54)] ((jw_up σ 53 (σ 47 1) x)) _
    refine jw_W_n 1 (i' := 15) (ls' := [some (.inr (.inr 47)), some (.inl x), some (.inl y), some (.inl z), some (.inl w)]) (st' := [.inl y, .inl (σ 47 1), .inr (.inr 54)]) rfl ?_
    refine jw_W_is rfl (by omega) rfl (by omega) (by omega) (by omega) ?_
    refine jw_W_n 1 (i' := 17) (ls' := [some (.inr (.inr 47)), some (.inl x), some (.inl y), some (.inl z), some (.inl w)]) (st' := [.inr (.inr 47)]) rfl ?_
    refine jw_W_gf rfl rfl rfl ?_
    show jw_W (js_S n) _ md_95 18 [some (.inr (.inr 47)), some (.inl x), some (.inl y), some (.inl z), some (.inl w)] [.inr (.inr 55)] ((jw_up (jw_up σ 53 (σ 47 1) x) 54 (σ 47 1) y)) _
    refine jw_W_n 1 (i' := 19) (ls' := [some (.inr (.inr 47)), some (.inl x), some (.inl y), some (.inl z), some (.inl w)]) (st' := [.inr (.inr 47), .inr (.inr 55)]) rfl ?_
    refine jw_W_gf rfl rfl rfl ?_
    show jw_W (js_S n) _ md_95 20 [some (.inr (.inr 47)), some (.inl x), some (.inl y), some (.inl z), some (.inl w)] [.inl (σ 47 1), .inr (.inr 55)] ((jw_up (jw_up σ 53 (σ 47 1) x) 54 (σ 47 1) y)) _
    refine jw_W_n 1 (i' := 21) (ls' := [some (.inr (.inr 47)), some (.inl x), some (.inl y), some (.inl z), some (.inl w)]) (st' := [.inl z, .inl (σ 47 1), .inr (.inr 55)]) rfl ?_
    refine jw_W_is rfl (by omega) rfl (by omega) (by omega) (by omega) ?_
    refine jw_W_n 1 (i' := 23) (ls' := [some (.inr (.inr 47)), some (.inl x), some (.inl y), some (.inl z), some (.inl w)]) (st' := [.inr (.inr 47)]) rfl ?_
    refine jw_W_gf rfl rfl rfl ?_
    show jw_W (js_S n) _ md_95 24 [some (.inr (.inr 47)), some (.inl x), some (.inl y), some (.inl z), some (.inl w)] [.inr (.inr 56)] ((jw_up (jw_up (jw_up σ 53 (σ 47 1) x) 54 (σ 47 1) y) 55 (σ 47 1) z)) _
    refine jw_W_n 1 (i' := 25) (ls' := [some (.inr (.inr 47)), some (.inl x), some (.inl y), some (.inl z), some (.inl w)]) (st' := [.inr (.inr 47), .inr (.inr 56)]) rfl ?_
    refine jw_W_gf rfl rfl rfl ?_
    show jw_W (js_S n) _ md_95 26 [some (.inr (.inr 47)), some (.inl x), some (.inl y), some (.inl z), some (.inl w)] [.inl (σ 47 1), .inr (.inr 56)] ((jw_up (jw_up (jw_up σ 53 (σ 47 1) x) 54 (σ 47 1) y) 55 (σ 47 1) z)) _
    refine jw_W_n 1 (i' := 27) (ls' := [some (.inr (.inr 47)), some (.inl x), some (.inl y), some (.inl z), some (.inl w)]) (st' := [.inl w, .inl (σ 47 1), .inr (.inr 56)]) rfl ?_
    refine jw_W_is rfl (by omega) rfl (by omega) (by omega) (by omega) ?_
    refine jw_W_n 2 (i' := 30) (ls' := [some (.inr (.inr 47)), some (.inl x), some (.inl y), some (.inl z), some (.inl w)]) (st' := [.inr (.inr 47), .inr (.inr 47)]) rfl ?_
    refine jw_W_gf rfl rfl rfl ?_
    show jw_W (js_S n) _ md_95 31 [some (.inr (.inr 47)), some (.inl x), some (.inl y), some (.inl z), some (.inl w)] [.inl (σ 47 1), .inr (.inr 47)] ((jw_up (jw_up (jw_up (jw_up σ 53 (σ 47 1) x) 54 (σ 47 1) y) 55 (σ 47 1) z) 56 (σ 47 1) w)) _
    refine jw_W_n 2 (i' := 33) (ls' := [some (.inr (.inr 47)), some (.inl x), some (.inl y), some (.inl z), some (.inl w)]) (st' := [.inl (σ 47 1 + 1), .inr (.inr 47)]) rfl ?_
    refine jw_W_pf (a := σ 47 1 + 1) rfl (by omega) rfl rfl rfl rfl rfl ?_
    refine jw_W_re rfl ?_
    exact ⟨rfl, rfl⟩
/-- so many times a quantity is no more than this -/
def jx_xr (q t m : Int) : ge_R := (if q = 0 then t else 0, if q = 1 then t else 0, if q = 2 then t else 0, m)
theorem jx_boundAxis {n : Nat} {σ : jw_H} {q t m : Int} (hq : jw_rg q) (h0 : 0 ≤ σ 47 1) (h1 : σ 47 1 < 24) : jw_T (js_S n) 2 96 [.inr (.inr 47), .inl q, .inl t, .inl m] σ (fun r σ' => r = none ∧ σ' = jx_bo σ (jx_xr q t m)) := by
  refine jw_T_of (D := 1) (M := mm_96) rfl (Nat.le_of_ble_eq_true rfl) (ls0 := [some (.inr (.inr 47)), some (.inl q), some (.inl t), some (.inl m)]) rfl ?_ (by rintro _ _ ⟨rfl, -⟩; rfl)
  have rhq := hq
  unfold jw_rg at rhq
  refine jw_W_n 2 (i' := 2) (ls' := [some (.inr (.inr 47)), some (.inl q), some (.inl t), some (.inl m)]) (st' := [.inl q, .inr (.inr 47)]) rfl ?_
  refine jw_W_if rfl (by unfold jw_rg; omega) (fun hc1 => ?_) (fun hc1 => ?_)
  · have hc1 : q ≠ 0 := hc1
    refine jw_W_n 3 (i' := 8) (ls' := [some (.inr (.inr 47)), some (.inl q), some (.inl t), some (.inl m)]) (st' := [.inl 1, .inl q, .inl 0, .inr (.inr 47)]) rfl ?_
    refine jw_W_ic rfl (by unfold jw_rg; omega) (by unfold jw_rg; omega) (fun hc2 => ?_) (fun hc2 => ?_)
    · have hc2 : q ≠ 1 := hc2
      refine jw_W_n 3 (i' := 14) (ls' := [some (.inr (.inr 47)), some (.inl q), some (.inl t), some (.inl m)]) (st' := [.inl 2, .inl q, .inl 0, .inl 0, .inr (.inr 47)]) rfl ?_
      refine jw_W_ic rfl (by unfold jw_rg; omega) (by unfold jw_rg; omega) (fun hc3 => ?_) (fun hc3 => ?_)
      · have hc3 : q ≠ 2 := hc3
        refine jw_W_n 2 (i' := 19) (ls' := [some (.inr (.inr 47)), some (.inl q), some (.inl t), some (.inl m)]) (st' := [.inl m, .inl 0, .inl 0, .inl 0, .inr (.inr 47)]) rfl ?_
        refine jw_W_call (as := [.inr (.inr 47), .inl 0, .inl 0, .inl 0, .inl m]) (rest := []) rfl rfl rfl rfl (Nat.le_of_ble_eq_true rfl) (.inr rfl) (jx_bound h0 h1) (by omega) ?_ rfl
        rintro r1 σ1 ⟨rfl, hs⟩
        rw [hs, show ((0, 0, 0, m) : ge_R) = jx_xr q t m from by simp only [jx_xr, Prod.mk.injEq]; refine ⟨?_, ?_, ?_, trivial⟩ <;> first | omega | rw [if_pos (by omega)] | rw [if_neg (by omega)]]
        show jw_W (js_S n) _ md_96 20 [some (.inr (.inr 47)), some (.inl q), some (.inl t), some (.inl m)] [] ((jx_bo σ (jx_xr q t m))) _
        refine jw_W_re rfl ?_
        exact ⟨rfl, rfl⟩
      · have hc3 : q = 2 := Classical.not_not.mp hc3
        refine jw_W_n 3 (i' := 19) (ls' := [some (.inr (.inr 47)), some (.inl q), some (.inl t), some (.inl m)]) (st' := [.inl m, .inl t, .inl 0, .inl 0, .inr (.inr 47)]) rfl ?_
        refine jw_W_call (as := [.inr (.inr 47), .inl 0, .inl 0, .inl t, .inl m]) (rest := []) rfl rfl rfl rfl (Nat.le_of_ble_eq_true rfl) (.inr rfl) (jx_bound h0 h1) (by omega) ?_ rfl
        rintro r1 σ1 ⟨rfl, hs⟩
        rw [hs, show ((0, 0, t, m) : ge_R) = jx_xr q t m from by simp only [jx_xr, Prod.mk.injEq]; refine ⟨?_, ?_, ?_, trivial⟩ <;> first | omega | rw [if_pos (by omega)] | rw [if_neg (by omega)]]
        show jw_W (js_S n) _ md_96 20 [some (.inr (.inr 47)), some (.inl q), some (.inl t), some (.inl m)] [] ((jx_bo σ (jx_xr q t m))) _
        refine jw_W_re rfl ?_
        exact ⟨rfl, rfl⟩
    · have hc2 : q = 1 := Classical.not_not.mp hc2
      refine jw_W_n 4 (i' := 14) (ls' := [some (.inr (.inr 47)), some (.inl q), some (.inl t), some (.inl m)]) (st' := [.inl 2, .inl q, .inl t, .inl 0, .inr (.inr 47)]) rfl ?_
      refine jw_W_ic rfl (by unfold jw_rg; omega) (by unfold jw_rg; omega) (fun hc4 => ?_) (fun hc4 => ?_)
      · have hc4 : q ≠ 2 := hc4
        refine jw_W_n 2 (i' := 19) (ls' := [some (.inr (.inr 47)), some (.inl q), some (.inl t), some (.inl m)]) (st' := [.inl m, .inl 0, .inl t, .inl 0, .inr (.inr 47)]) rfl ?_
        refine jw_W_call (as := [.inr (.inr 47), .inl 0, .inl t, .inl 0, .inl m]) (rest := []) rfl rfl rfl rfl (Nat.le_of_ble_eq_true rfl) (.inr rfl) (jx_bound h0 h1) (by omega) ?_ rfl
        rintro r1 σ1 ⟨rfl, hs⟩
        rw [hs, show ((0, t, 0, m) : ge_R) = jx_xr q t m from by simp only [jx_xr, Prod.mk.injEq]; refine ⟨?_, ?_, ?_, trivial⟩ <;> first | omega | rw [if_pos (by omega)] | rw [if_neg (by omega)]]
        show jw_W (js_S n) _ md_96 20 [some (.inr (.inr 47)), some (.inl q), some (.inl t), some (.inl m)] [] ((jx_bo σ (jx_xr q t m))) _
        refine jw_W_re rfl ?_
        exact ⟨rfl, rfl⟩
      · have hc4 : q = 2 := Classical.not_not.mp hc4
        refine jw_W_n 3 (i' := 19) (ls' := [some (.inr (.inr 47)), some (.inl q), some (.inl t), some (.inl m)]) (st' := [.inl m, .inl t, .inl t, .inl 0, .inr (.inr 47)]) rfl ?_
        refine jw_W_call (as := [.inr (.inr 47), .inl 0, .inl t, .inl t, .inl m]) (rest := []) rfl rfl rfl rfl (Nat.le_of_ble_eq_true rfl) (.inr rfl) (jx_bound h0 h1) (by omega) ?_ rfl
        rintro r1 σ1 ⟨rfl, hs⟩
        rw [hs, show ((0, t, t, m) : ge_R) = jx_xr q t m from by simp only [jx_xr, Prod.mk.injEq]; refine ⟨?_, ?_, ?_, trivial⟩ <;> first | omega | rw [if_pos (by omega)] | rw [if_neg (by omega)]]
        show jw_W (js_S n) _ md_96 20 [some (.inr (.inr 47)), some (.inl q), some (.inl t), some (.inl m)] [] ((jx_bo σ (jx_xr q t m))) _
        refine jw_W_re rfl ?_
        exact ⟨rfl, rfl⟩
  · have hc1 : q = 0 := Classical.not_not.mp hc1
    refine jw_W_n 4 (i' := 8) (ls' := [some (.inr (.inr 47)), some (.inl q), some (.inl t), some (.inl m)]) (st' := [.inl 1, .inl q, .inl t, .inr (.inr 47)]) rfl ?_
    refine jw_W_ic rfl (by unfold jw_rg; omega) (by unfold jw_rg; omega) (fun hc5 => ?_) (fun hc5 => ?_)
    · have hc5 : q ≠ 1 := hc5
      refine jw_W_n 3 (i' := 14) (ls' := [some (.inr (.inr 47)), some (.inl q), some (.inl t), some (.inl m)]) (st' := [.inl 2, .inl q, .inl 0, .inl t, .inr (.inr 47)]) rfl ?_
      refine jw_W_ic rfl (by unfold jw_rg; omega) (by unfold jw_rg; omega) (fun hc6 => ?_) (fun hc6 => ?_)
      · have hc6 : q ≠ 2 := hc6
        refine jw_W_n 2 (i' := 19) (ls' := [some (.inr (.inr 47)), some (.inl q), some (.inl t), some (.inl m)]) (st' := [.inl m, .inl 0, .inl 0, .inl t, .inr (.inr 47)]) rfl ?_
        refine jw_W_call (as := [.inr (.inr 47), .inl t, .inl 0, .inl 0, .inl m]) (rest := []) rfl rfl rfl rfl (Nat.le_of_ble_eq_true rfl) (.inr rfl) (jx_bound h0 h1) (by omega) ?_ rfl
        rintro r1 σ1 ⟨rfl, hs⟩
        rw [hs, show ((t, 0, 0, m) : ge_R) = jx_xr q t m from by simp only [jx_xr, Prod.mk.injEq]; refine ⟨?_, ?_, ?_, trivial⟩ <;> first | omega | rw [if_pos (by omega)] | rw [if_neg (by omega)]]
        show jw_W (js_S n) _ md_96 20 [some (.inr (.inr 47)), some (.inl q), some (.inl t), some (.inl m)] [] ((jx_bo σ (jx_xr q t m))) _
        refine jw_W_re rfl ?_
        exact ⟨rfl, rfl⟩
      · have hc6 : q = 2 := Classical.not_not.mp hc6
        refine jw_W_n 3 (i' := 19) (ls' := [some (.inr (.inr 47)), some (.inl q), some (.inl t), some (.inl m)]) (st' := [.inl m, .inl t, .inl 0, .inl t, .inr (.inr 47)]) rfl ?_
        refine jw_W_call (as := [.inr (.inr 47), .inl t, .inl 0, .inl t, .inl m]) (rest := []) rfl rfl rfl rfl (Nat.le_of_ble_eq_true rfl) (.inr rfl) (jx_bound h0 h1) (by omega) ?_ rfl
        rintro r1 σ1 ⟨rfl, hs⟩
        rw [hs, show ((t, 0, t, m) : ge_R) = jx_xr q t m from by simp only [jx_xr, Prod.mk.injEq]; refine ⟨?_, ?_, ?_, trivial⟩ <;> first | omega | rw [if_pos (by omega)] | rw [if_neg (by omega)]]
        show jw_W (js_S n) _ md_96 20 [some (.inr (.inr 47)), some (.inl q), some (.inl t), some (.inl m)] [] ((jx_bo σ (jx_xr q t m))) _
        refine jw_W_re rfl ?_
        exact ⟨rfl, rfl⟩
    · have hc5 : q = 1 := Classical.not_not.mp hc5
      refine jw_W_n 4 (i' := 14) (ls' := [some (.inr (.inr 47)), some (.inl q), some (.inl t), some (.inl m)]) (st' := [.inl 2, .inl q, .inl t, .inl t, .inr (.inr 47)]) rfl ?_
      refine jw_W_ic rfl (by unfold jw_rg; omega) (by unfold jw_rg; omega) (fun hc7 => ?_) (fun hc7 => ?_)
      · have hc7 : q ≠ 2 := hc7
        refine jw_W_n 2 (i' := 19) (ls' := [some (.inr (.inr 47)), some (.inl q), some (.inl t), some (.inl m)]) (st' := [.inl m, .inl 0, .inl t, .inl t, .inr (.inr 47)]) rfl ?_
        refine jw_W_call (as := [.inr (.inr 47), .inl t, .inl t, .inl 0, .inl m]) (rest := []) rfl rfl rfl rfl (Nat.le_of_ble_eq_true rfl) (.inr rfl) (jx_bound h0 h1) (by omega) ?_ rfl
        rintro r1 σ1 ⟨rfl, hs⟩
        rw [hs, show ((t, t, 0, m) : ge_R) = jx_xr q t m from by simp only [jx_xr, Prod.mk.injEq]; refine ⟨?_, ?_, ?_, trivial⟩ <;> first | omega | rw [if_pos (by omega)] | rw [if_neg (by omega)]]
        show jw_W (js_S n) _ md_96 20 [some (.inr (.inr 47)), some (.inl q), some (.inl t), some (.inl m)] [] ((jx_bo σ (jx_xr q t m))) _
        refine jw_W_re rfl ?_
        exact ⟨rfl, rfl⟩
      · have hc7 : q = 2 := Classical.not_not.mp hc7
        refine jw_W_n 3 (i' := 19) (ls' := [some (.inr (.inr 47)), some (.inl q), some (.inl t), some (.inl m)]) (st' := [.inl m, .inl t, .inl t, .inl t, .inr (.inr 47)]) rfl ?_
        refine jw_W_call (as := [.inr (.inr 47), .inl t, .inl t, .inl t, .inl m]) (rest := []) rfl rfl rfl rfl (Nat.le_of_ble_eq_true rfl) (.inr rfl) (jx_bound h0 h1) (by omega) ?_ rfl
        rintro r1 σ1 ⟨rfl, hs⟩
        rw [hs, show ((t, t, t, m) : ge_R) = jx_xr q t m from by simp only [jx_xr, Prod.mk.injEq]; refine ⟨?_, ?_, ?_, trivial⟩ <;> first | omega | rw [if_pos (by omega)] | rw [if_neg (by omega)]]
        show jw_W (js_S n) _ md_96 20 [some (.inr (.inr 47)), some (.inl q), some (.inl t), some (.inl m)] [] ((jx_bo σ (jx_xr q t m))) _
        refine jw_W_re rfl ?_
        exact ⟨rfl, rfl⟩
/-- a plane as a row that bounds, with another number -/
def jx_rn (μ : jw_H) (k m : Int) : ge_R := (jx_sn μ k * jm_pf μ k 0, jx_sn μ k * jm_pf μ k 1, jx_sn μ k * jm_pf μ k 2, jx_sn μ k * m)
theorem jx_boundPlane {n : Nat} {σ : jw_H} {o : Nat} (hp : jx_po n o) {k m : Int} (hP : jx_Pb σ o) (k0 : 0 ≤ k) (k1 : k < σ o 2 + 2 * σ o 0) (h0 : 0 ≤ σ 47 1) (h1 : σ 47 1 < 24) : jw_T (js_S n) 3 98 [.inr (.inr 47), .inr (.inr o), .inl k, .inl m] σ (fun r σ' => r = none ∧ σ' = jx_bo σ (jx_rn (jx_M σ o) k m)) := by
  refine jw_T_of (D := 2) (M := mm_98) rfl (Nat.le_of_ble_eq_true rfl) (ls0 := [some (.inr (.inr 47)), some (.inr (.inr o)), some (.inl k), some (.inl m), none]) rfl ?_ (by rintro _ _ ⟨rfl, -⟩; rfl)
  have ho := hp.1
  refine jw_W_n 2 (i' := 2) (ls' := [some (.inr (.inr 47)), some (.inr (.inr o)), some (.inl k), some (.inl m), none]) (st' := [.inl k, .inr (.inr o)]) rfl ?_
  refine jw_W_call (as := [.inr (.inr o), .inl k]) (rest := []) rfl rfl rfl rfl (Nat.le_of_ble_eq_true rfl) (.inr (jx_rc hp.2.1)) (jx_sense hp hP k0 k1) (by omega) ?_ rfl
  rintro r1 σ1 ⟨rfl, hs⟩
  rw [hs]
  show jw_W (js_S n) _ md_98 3 [some (.inr (.inr 47)), some (.inr (.inr o)), some (.inl k), some (.inl m), none] [.inl (jx_sn (jx_M σ o) k)] σ _
  refine jw_W_n 6 (i' := 9) (ls' := [some (.inr (.inr 47)), some (.inr (.inr o)), some (.inl k), some (.inl m), some (.inl (jx_sn (jx_M σ o) k))]) (st' := [.inl 0, .inl k, .inr (.inr o), .inl (jx_sn (jx_M σ o) k), .inr (.inr 47)]) rfl ?_
  refine jw_W_call (as := [.inr (.inr o), .inl k, .inl 0]) (rest := [.inl (jx_sn (jx_M σ o) k), .inr (.inr 47)]) rfl rfl rfl rfl (Nat.le_of_ble_eq_true rfl) (.inr (jx_rc hp.2.1)) (jx_takes hp hP k0 k1 (by omega) (by omega)) (by omega) ?_ rfl
  rintro r1 σ1 ⟨rfl, hs⟩
  rw [hs]
  show jw_W (js_S n) _ md_98 10 [some (.inr (.inr 47)), some (.inr (.inr o)), some (.inl k), some (.inl m), some (.inl (jx_sn (jx_M σ o) k))] [.inl (jm_pf (jx_M σ o) k 0), .inl (jx_sn (jx_M σ o) k), .inr (.inr 47)] σ _
  refine jw_W_n 5 (i' := 15) (ls' := [some (.inr (.inr 47)), some (.inr (.inr o)), some (.inl k), some (.inl m), some (.inl (jx_sn (jx_M σ o) k))]) (st' := [.inl 1, .inl k, .inr (.inr o), .inl (jx_sn (jx_M σ o) k), .inl ((jx_sn (jx_M σ o) k) * (jm_pf (jx_M σ o) k 0)), .inr (.inr 47)]) rfl ?_
  refine jw_W_call (as := [.inr (.inr o), .inl k, .inl 1]) (rest := [.inl (jx_sn (jx_M σ o) k), .inl ((jx_sn (jx_M σ o) k) * (jm_pf (jx_M σ o) k 0)), .inr (.inr 47)]) rfl rfl rfl rfl (Nat.le_of_ble_eq_true rfl) (.inr (jx_rc hp.2.1)) (jx_takes hp hP k0 k1 (by omega) (by omega)) (by omega) ?_ rfl
  rintro r1 σ1 ⟨rfl, hs⟩
  rw [hs]
  show jw_W (js_S n) _ md_98 16 [some (.inr (.inr 47)), some (.inr (.inr o)), some (.inl k), some (.inl m), some (.inl (jx_sn (jx_M σ o) k))] [.inl (jm_pf (jx_M σ o) k 1), .inl (jx_sn (jx_M σ o) k), .inl ((jx_sn (jx_M σ o) k) * (jm_pf (jx_M σ o) k 0)), .inr (.inr 47)] σ _
  refine jw_W_n 5 (i' := 21) (ls' := [some (.inr (.inr 47)), some (.inr (.inr o)), some (.inl k), some (.inl m), some (.inl (jx_sn (jx_M σ o) k))]) (st' := [.inl 2, .inl k, .inr (.inr o), .inl (jx_sn (jx_M σ o) k), .inl ((jx_sn (jx_M σ o) k) * (jm_pf (jx_M σ o) k 1)), .inl ((jx_sn (jx_M σ o) k) * (jm_pf (jx_M σ o) k 0)), .inr (.inr 47)]) rfl ?_
  refine jw_W_call (as := [.inr (.inr o), .inl k, .inl 2]) (rest := [.inl (jx_sn (jx_M σ o) k), .inl ((jx_sn (jx_M σ o) k) * (jm_pf (jx_M σ o) k 1)), .inl ((jx_sn (jx_M σ o) k) * (jm_pf (jx_M σ o) k 0)), .inr (.inr 47)]) rfl rfl rfl rfl (Nat.le_of_ble_eq_true rfl) (.inr (jx_rc hp.2.1)) (jx_takes hp hP k0 k1 (by omega) (by omega)) (by omega) ?_ rfl
  rintro r1 σ1 ⟨rfl, hs⟩
  rw [hs]
  show jw_W (js_S n) _ md_98 22 [some (.inr (.inr 47)), some (.inr (.inr o)), some (.inl k), some (.inl m), some (.inl (jx_sn (jx_M σ o) k))] [.inl (jm_pf (jx_M σ o) k 2), .inl (jx_sn (jx_M σ o) k), .inl ((jx_sn (jx_M σ o) k) * (jm_pf (jx_M σ o) k 1)), .inl ((jx_sn (jx_M σ o) k) * (jm_pf (jx_M σ o) k 0)), .inr (.inr 47)] σ _
  refine jw_W_n 4 (i' := 26) (ls' := [some (.inr (.inr 47)), some (.inr (.inr o)), some (.inl k), some (.inl m), some (.inl (jx_sn (jx_M σ o) k))]) (st' := [.inl ((jx_sn (jx_M σ o) k) * m), .inl ((jx_sn (jx_M σ o) k) * (jm_pf (jx_M σ o) k 2)), .inl ((jx_sn (jx_M σ o) k) * (jm_pf (jx_M σ o) k 1)), .inl ((jx_sn (jx_M σ o) k) * (jm_pf (jx_M σ o) k 0)), .inr (.inr 47)]) rfl ?_
  refine jw_W_call (as := [.inr (.inr 47), .inl ((jx_sn (jx_M σ o) k) * (jm_pf (jx_M σ o) k 0)), .inl ((jx_sn (jx_M σ o) k) * (jm_pf (jx_M σ o) k 1)), .inl ((jx_sn (jx_M σ o) k) * (jm_pf (jx_M σ o) k 2)), .inl ((jx_sn (jx_M σ o) k) * m)]) (rest := []) rfl rfl rfl rfl (Nat.le_of_ble_eq_true rfl) (.inr rfl) (jx_bound h0 h1) (by omega) ?_ rfl
  rintro r1 σ1 ⟨rfl, rfl⟩
  show jw_W (js_S n) _ md_98 27 [some (.inr (.inr 47)), some (.inr (.inr o)), some (.inl k), some (.inl m), some (.inl (jx_sn (jx_M σ o) k))] [] ((jx_bo σ (jx_rn (jx_M σ o) k m))) _
  refine jw_W_re rfl ?_
  exact ⟨rfl, rfl⟩
/-- a wish is no less than this -/
def jx_wr (μ : jw_H) (w m : Int) : ge_R := (-(jm_W μ w).1, -(jm_W μ w).2.1, -(jm_W μ w).2.2, -m)
theorem jx_boundWish {n : Nat} {σ : jw_H} {o : Nat} (hp : jx_po n o) {w m : Int} (w0 : 0 ≤ w) (w1 : w < 3) (h0 : 0 ≤ σ 47 1) (h1 : σ 47 1 < 24) : jw_T (js_S n) 3 99 [.inr (.inr 47), .inr (.inr o), .inl w, .inl m] σ (fun r σ' => r = none ∧ σ' = jx_bo σ (jx_wr (jx_M σ o) w m)) := by
  refine jw_T_of (D := 2) (M := mm_99) rfl (Nat.le_of_ble_eq_true rfl) (ls0 := [some (.inr (.inr 47)), some (.inr (.inr o)), some (.inl w), some (.inl m), none]) rfl ?_ (by rintro _ _ ⟨rfl, -⟩; rfl)
  have ho := hp.1
  refine jw_W_n 6 (i' := 6) (ls' := [some (.inr (.inr 47)), some (.inr (.inr o)), some (.inl w), some (.inl m), some (.inl (3 * w))]) (st' := [.inr (.inr o), .inr (.inr 47)]) rfl ?_
  refine jw_W_gf rfl hp.2.1 rfl ?_
  show jw_W (js_S n) _ md_99 7 [some (.inr (.inr 47)), some (.inr (.inr o)), some (.inl w), some (.inl m), some (.inl (3 * w))] [.inr (.inr (o + 1)), .inr (.inr 47)] σ _
  refine jw_W_n 1 (i' := 8) (ls' := [some (.inr (.inr 47)), some (.inr (.inr o)), some (.inl w), some (.inl m), some (.inl (3 * w))]) (st' := [.inl (3 * w), .inr (.inr (o + 1)), .inr (.inr 47)]) rfl ?_
  refine jw_W_ia rfl hp.2.2.1 (by omega) (by omega) (by omega) ?_
  show jw_W (js_S n) _ md_99 9 [some (.inr (.inr 47)), some (.inr (.inr o)), some (.inl w), some (.inl m), some (.inl (3 * w))] [.inl (σ (o + 1) (3 * w)), .inr (.inr 47)] σ _
  refine jw_W_n 2 (i' := 11) (ls' := [some (.inr (.inr 47)), some (.inr (.inr o)), some (.inl w), some (.inl m), some (.inl (3 * w))]) (st' := [.inr (.inr o), .inl ((-(σ (o + 1) (3 * w)))), .inr (.inr 47)]) rfl ?_
  refine jw_W_gf rfl hp.2.1 rfl ?_
  show jw_W (js_S n) _ md_99 12 [some (.inr (.inr 47)), some (.inr (.inr o)), some (.inl w), some (.inl m), some (.inl (3 * w))] [.inr (.inr (o + 1)), .inl ((-(σ (o + 1) (3 * w)))), .inr (.inr 47)] σ _
  refine jw_W_n 3 (i' := 15) (ls' := [some (.inr (.inr 47)), some (.inr (.inr o)), some (.inl w), some (.inl m), some (.inl (3 * w))]) (st' := [.inl ((3 * w) + 1), .inr (.inr (o + 1)), .inl ((-(σ (o + 1) (3 * w)))), .inr (.inr 47)]) rfl ?_
  refine jw_W_ia rfl hp.2.2.1 (by omega) (by omega) (by omega) ?_
  show jw_W (js_S n) _ md_99 16 [some (.inr (.inr 47)), some (.inr (.inr o)), some (.inl w), some (.inl m), some (.inl (3 * w))] [.inl (σ (o + 1) ((3 * w) + 1)), .inl ((-(σ (o + 1) (3 * w)))), .inr (.inr 47)] σ _
  refine jw_W_n 2 (i' := 18) (ls' := [some (.inr (.inr 47)), some (.inr (.inr o)), some (.inl w), some (.inl m), some (.inl (3 * w))]) (st' := [.inr (.inr o), .inl ((-(σ (o + 1) ((3 * w) + 1)))), .inl ((-(σ (o + 1) (3 * w)))), .inr (.inr 47)]) rfl ?_
  refine jw_W_gf rfl hp.2.1 rfl ?_
  show jw_W (js_S n) _ md_99 19 [some (.inr (.inr 47)), some (.inr (.inr o)), some (.inl w), some (.inl m), some (.inl (3 * w))] [.inr (.inr (o + 1)), .inl ((-(σ (o + 1) ((3 * w) + 1)))), .inl ((-(σ (o + 1) (3 * w)))), .inr (.inr 47)] σ _
  refine jw_W_n 3 (i' := 22) (ls' := [some (.inr (.inr 47)), some (.inr (.inr o)), some (.inl w), some (.inl m), some (.inl (3 * w))]) (st' := [.inl ((3 * w) + 2), .inr (.inr (o + 1)), .inl ((-(σ (o + 1) ((3 * w) + 1)))), .inl ((-(σ (o + 1) (3 * w)))), .inr (.inr 47)]) rfl ?_
  refine jw_W_ia rfl hp.2.2.1 (by omega) (by omega) (by omega) ?_
  show jw_W (js_S n) _ md_99 23 [some (.inr (.inr 47)), some (.inr (.inr o)), some (.inl w), some (.inl m), some (.inl (3 * w))] [.inl (σ (o + 1) ((3 * w) + 2)), .inl ((-(σ (o + 1) ((3 * w) + 1)))), .inl ((-(σ (o + 1) (3 * w)))), .inr (.inr 47)] σ _
  refine jw_W_n 3 (i' := 26) (ls' := [some (.inr (.inr 47)), some (.inr (.inr o)), some (.inl w), some (.inl m), some (.inl (3 * w))]) (st' := [.inl ((-m)), .inl ((-(σ (o + 1) ((3 * w) + 2)))), .inl ((-(σ (o + 1) ((3 * w) + 1)))), .inl ((-(σ (o + 1) (3 * w)))), .inr (.inr 47)]) rfl ?_
  refine jw_W_call (as := [.inr (.inr 47), .inl ((-(σ (o + 1) (3 * w)))), .inl ((-(σ (o + 1) ((3 * w) + 1)))), .inl ((-(σ (o + 1) ((3 * w) + 2)))), .inl ((-m))]) (rest := []) rfl rfl rfl rfl (Nat.le_of_ble_eq_true rfl) (.inr rfl) (jx_bound h0 h1) (by omega) ?_ rfl
  rintro r1 σ1 ⟨rfl, rfl⟩
  show jw_W (js_S n) _ md_99 27 [some (.inr (.inr 47)), some (.inr (.inr o)), some (.inl w), some (.inl m), some (.inl (3 * w))] [] ((jx_bo σ (jx_wr (jx_M σ o) w m))) _
  refine jw_W_re rfl ?_
  exact ⟨rfl, rfl⟩
/-- two stores hold the same problem -/
def jx_pq (μ ν : jw_H) : Prop := (μ 103 3 = ν 103 3 ∧ μ 103 4 = ν 103 4 ∧ μ 103 5 = ν 103 5) ∧ (∀ j, 0 ≤ j → j < 3 * ν 103 4 → μ 104 j = ν 104 j) ∧ (∀ j, 0 ≤ j → j < 5 * ν 103 5 → μ 105 j = ν 105 j) ∧ ∀ j, 0 ≤ j → j < 3 → μ 106 j = ν 106 j
theorem jx_pq_rf (μ : jw_H) : jx_pq μ μ := ⟨⟨rfl, rfl, rfl⟩, fun _ _ _ => rfl, fun _ _ _ => rfl, fun _ _ _ => rfl⟩
theorem jx_pq_pf {μ ν : jw_H} (h : jx_pq μ ν) {k j : Int} (k0 : 0 ≤ k) (j0 : 0 ≤ j) (j1 : j < 3) : jm_pf μ k j = jm_pf ν k j := by
  unfold jm_pf
  rw [h.1.1, h.1.2.2]
  split
  · rw [h.2.2.1 _ (by omega) (by omega)]
  · rfl
theorem jx_pq_kf {μ ν : jw_H} (h : jx_pq μ ν) {k : Int} (k0 : 0 ≤ k) : jm_kf μ k = jm_kf ν k := by
  unfold jm_kf
  rw [h.1.1, h.1.2.2]
  split
  · rw [h.2.2.1 _ (by omega) (by omega)]
  · rfl
theorem jx_pq_if {μ ν : jw_H} (h : jx_pq μ ν) {k : Int} (k0 : 0 ≤ k) (k1 : k < ν 103 5 + 2 * ν 103 3) (q3 : ν 103 3 ≤ 3) : jm_if μ k = jm_if ν k := by
  unfold jm_if
  rw [h.1.1, h.1.2.2]
  split
  · rw [h.2.2.1 _ (by omega) (by omega)]
  · split
    · rfl
    · rw [h.2.2.2 _ (by omega) (by omega)]
theorem jx_pq_sn {μ ν : jw_H} (h : jx_pq μ ν) {k : Int} (k0 : 0 ≤ k) : jx_sn μ k = jx_sn ν k := by
  unfold jx_sn
  rw [jx_pq_kf h k0]
theorem jx_pq_rn {μ ν : jw_H} (h : jx_pq μ ν) {k : Int} (k0 : 0 ≤ k) (m : Int) : jx_rn μ k m = jx_rn ν k m := by
  unfold jx_rn
  rw [jx_pq_sn h k0, jx_pq_pf h k0 (by omega) (by omega), jx_pq_pf h k0 (by omega) (by omega), jx_pq_pf h k0 (by omega) (by omega)]
theorem jx_pq_W {μ ν : jw_H} (h : jx_pq μ ν) {w : Int} (w0 : 0 ≤ w) (w1 : w < ν 103 4) : jm_W μ w = jm_W ν w := by
  unfold jm_W
  rw [h.2.1 _ (by omega) (by omega), h.2.1 _ (by omega) (by omega), h.2.1 _ (by omega) (by omega)]
theorem jx_pq_wr {μ ν : jw_H} (h : jx_pq μ ν) {w : Int} (w0 : 0 ≤ w) (w1 : w < ν 103 4) (m : Int) : jx_wr μ w m = jx_wr ν w m := by
  unfold jx_wr
  rw [jx_pq_W h w0 w1]
theorem jx_pq_F {μ ν : jw_H} (h : jx_pq μ ν) : jm_F μ = jm_F ν := by
  unfold jm_F
  rw [h.1.2.1]
  apply List.map_congr_left
  intro w hw
  rw [List.mem_range] at hw
  exact jx_pq_W h (by omega) (by omega)
theorem jx_pq_kr {μ ν : jw_H} (h : jx_pq μ ν) {k : Int} (k0 : 0 ≤ k) (k1 : k < ν 103 5) (m : Int) : jm_kr μ k m = jm_kr ν k m := by
  unfold jm_kr jm_sg
  rw [h.2.2.1 _ (by omega) (by omega), h.2.2.1 _ (by omega) (by omega), h.2.2.1 _ (by omega) (by omega), h.2.2.1 _ (by omega) (by omega), h.2.2.1 _ (by omega) (by omega)]
theorem jx_pq_bk {μ ν : jw_H} (h : jx_pq μ ν) (q3 : ν 103 3 ≤ 3) (wo mo : Int) : ∀ k : Nat, (k : Int) ≤ ν 103 5 → jm_bk μ wo mo k = jm_bk ν wo mo k
  | 0, _ => by
    unfold jm_bk
    rw [h.1.1, h.1.2.2]
    unfold jm_be
    rw [List.flatMap_def, List.flatMap_def]
    congr 1
    apply List.map_congr_left
    intro i hi
    rw [List.mem_range] at hi
    have e : jm_Bs μ i = jm_Bs ν i := h.2.2.2 _ (by omega) (by omega)
    rw [e]
  | k + 1, hk => by
    unfold jm_bk
    rw [jx_pq_bk h q3 wo mo k (by omega), jx_pq_kr h (by omega) (by omega)]
theorem jx_pq_bA {μ ν : jw_H} (h : jx_pq μ ν) (q3 : ν 103 3 ≤ 3) (k0 : 0 ≤ ν 103 5) : jm_bA μ = jm_bA ν := by
  unfold jm_bA
  rw [h.1.2.2]
  exact jx_pq_bk h q3 _ _ _ (by omega)
theorem jx_pq_R {μ ν : jw_H} (h : jx_pq μ ν) (q3 : ν 103 3 ≤ 3) (k0 : 0 ≤ ν 103 5) : jm_R μ = jm_R ν := by
  unfold jm_R
  rw [jx_pq_bA h q3 k0, h.1.1]
/-- the problem's object left as it was -/
theorem jx_M_fr {σ σ' : jw_H} {o : Nat} (h : ∀ c, o ≤ c → c ≤ o + 5 → σ' c = σ c) : jx_pq (jx_M σ' o) (jx_M σ o) := by
  refine ⟨⟨?_, ?_, ?_⟩, fun j _ _ => ?_, fun j _ _ => ?_, fun j _ _ => ?_⟩
  · rw [jx_M3, jx_M3, h o (by omega) (by omega)]
  · rw [jx_M4, jx_M4, h o (by omega) (by omega)]
  · rw [jx_M5, jx_M5, h o (by omega) (by omega)]
  · rw [jx_Mw, jx_Mw, h (o + 1) (by omega) (by omega)]
  · show (if j % 5 < 3 then σ' (o + 2) _ else if j % 5 = 3 then σ' (o + 3) _ else σ' (o + 4) _) = (if j % 5 < 3 then σ (o + 2) _ else if j % 5 = 3 then σ (o + 3) _ else σ (o + 4) _)
    rw [h (o + 2) (by omega) (by omega), h (o + 3) (by omega) (by omega), h (o + 4) (by omega) (by omega)]
  · rw [jx_Mb, jx_Mb, h (o + 5) (by omega) (by omega)]
theorem jx_Pb_fr {σ σ' : jw_H} {o : Nat} (h : ∀ c, o ≤ c → c ≤ o + 5 → σ' c = σ c) (hP : jx_Pb σ o) : jx_Pb σ' o := by
  unfold jx_Pb at *
  rw [h o (by omega) (by omega), h (o + 1) (by omega) (by omega), h (o + 2) (by omega) (by omega), h (o + 3) (by omega) (by omega), h (o + 4) (by omega) (by omega), h (o + 5) (by omega) (by omega)]
  exact hP
theorem jx_fb_o {n o : Nat} {σ σ' : jw_H} (hp : jx_po n o) (h : jx_fb σ σ') : ∀ c, o ≤ c → c ≤ o + 5 → σ' c = σ c := fun c h1 h2 => by
  have ho := hp.1
  exact h.1 c (by omega) (by omega)
/-- the planes' rows so far: without one, one's number one more -/
def jx_fL (μ : jw_H) (wo ra : Int) : Nat → List ge_R
  | 0 => []
  | k + 1 => if (k : Int) = wo then jx_fL μ wo ra k else jx_fL μ wo ra k ++ [jx_rn μ (k : Int) (jm_if μ (k : Int) + if (k : Int) = ra then 1 else 0)]
theorem jx_fL_len (μ : jw_H) (wo ra : Int) : ∀ k : Nat, (jx_fL μ wo ra k).length ≤ k
  | 0 => Nat.le_refl _
  | k + 1 => by
    have := jx_fL_len μ wo ra k
    unfold jx_fL
    split
    · omega
    · rw [List.length_append]
      simp only [List.length_cons, List.length_nil]
      omega
theorem jx_fL_mem {μ : jw_H} {wo ra : Int} {r : ge_R} : ∀ {k : Nat}, r ∈ jx_fL μ wo ra k ↔ ∃ i : Nat, i < k ∧ (i : Int) ≠ wo ∧ r = jx_rn μ (i : Int) (jm_if μ (i : Int) + if (i : Int) = ra then 1 else 0)
  | 0 => by
    simp [jx_fL]
  | k + 1 => by
    unfold jx_fL
    split
    · rename_i h
      rw [jx_fL_mem]
      constructor
      · rintro ⟨i, h1, h2, h3⟩
        exact ⟨i, by omega, h2, h3⟩
      · rintro ⟨i, h1, h2, h3⟩
        exact ⟨i, by omega, h2, h3⟩
    · rename_i h
      rw [List.mem_append, List.mem_singleton, jx_fL_mem]
      constructor
      · rintro (⟨i, h1, h2, h3⟩ | h3)
        · exact ⟨i, by omega, h2, h3⟩
        · exact ⟨k, by omega, h, h3⟩
      · rintro ⟨i, h1, h2, h3⟩
        by_cases e : i = k
        · rw [e] at h3
          exact .inr h3
        · exact .inl ⟨i, by omega, h2, h3⟩
/-- of quantities that are not there -/
def jx_nx (q : Int) : List ge_R := if q = 1 then [jx_xr 1 (-1) 0, jx_xr 2 (-1) 0] else if q = 2 then [jx_xr 2 (-1) 0] else []
theorem jx_fill_loop {n : Nat} {σ0 : jw_H} {o : Nat} {u v : Int} {D : Nat} {Q : Option jw_V → jw_H → Prop} (hD : 3 ≤ D) (hp : jx_po n o) (hP : jx_Pb σ0 o) (hu : jw_rg u) (hv : jw_rg v) (hQ : ∀ σ a, jx_bs σ0 (jx_fL (jx_M σ0 o) u v (σ0 o 2 + 2 * σ0 o 0).toNat) σ → jw_W (js_S n) D md_97 30 [some (.inr (.inr 47)), some (.inr (.inr o)), some (.inl u), some (.inl v), some (.inl (σ0 o 2 + 2 * σ0 o 0)), a] [] σ Q) : ∀ (f : Nat) {σ : jw_H} {k : Int} {a5 : Option jw_V}, 0 ≤ k → k + f = σ0 o 2 + 2 * σ0 o 0 → jx_bs σ0 (jx_fL (jx_M σ0 o) u v k.toNat) σ → jw_W (js_S n) D md_97 5 [some (.inr (.inr 47)), some (.inr (.inr o)), some (.inl u), some (.inl v), some (.inl k), a5] [] σ Q
  | f, σ, k, a5, k0, hk, H => by
    have ih : ∀ {σ' : jw_H} {a5 : Option jw_V}, k < σ0 o 2 + 2 * σ0 o 0 → jx_bs σ0 (jx_fL (jx_M σ0 o) u v (k + 1).toNat) σ' → jw_W (js_S n) D md_97 5 [some (.inr (.inr 47)), some (.inr (.inr o)), some (.inl u), some (.inl v), some (.inl (k + 1)), a5] [] σ' Q := by
      intro σ' a5 h1 h2
      match f, hk with
      | 0, hk => omega
      | f + 1, hk => exact jx_fill_loop hD hp hP hu hv hQ f (by omega) (by omega) h2
    have ho := hp.1
    have hq := hP.1
    have hq2 := hP.2.2.1
    unfold jw_rg at hu hv
    have fo := jx_fb_o hp H.1
    have f0 : σ o 0 = σ0 o 0 := by rw [fo o (by omega) (by omega)]
    have f2 : σ o 2 = σ0 o 2 := by rw [fo o (by omega) (by omega)]
    have hP1 := jx_Pb_fr fo hP
    have hpq := jx_M_fr fo
    have hlen := jx_fL_len (jx_M σ0 o) u v k.toNat
    have hl1 := H.2.1
    refine jw_W_n 2 (i' := 7) (ls' := [some (.inr (.inr 47)), some (.inr (.inr o)), some (.inl u), some (.inl v), some (.inl k), a5]) (st' := [.inr (.inr o), .inl k]) rfl ?_
    refine jw_W_call (as := [.inr (.inr o)]) (rest := [.inl k]) rfl rfl rfl rfl (Nat.le_of_ble_eq_true rfl) (.inr (jx_rc hp.2.1)) (jx_planes hp) (by omega) ?_ rfl
    rintro r1 σ1 ⟨rfl, hs⟩
    rw [hs]
    show jw_W (js_S n) _ md_97 8 [some (.inr (.inr 47)), some (.inr (.inr o)), some (.inl u), some (.inl v), some (.inl k), a5] [.inl (σ o 2 + 2 * σ o 0), .inl k] σ _
    rw [f2, f0]
    refine jw_W_ic rfl (by unfold jw_rg; omega) (by unfold jw_rg; omega) (fun hc1 => ?_) (fun hc1 => ?_)
    · have hc1 : k ≥ (σ0 o 2 + 2 * σ0 o 0) := hc1
      have hkl : k = σ0 o 2 + 2 * σ0 o 0 := by omega
      subst hkl
      exact hQ _ _ H
    · have hc1 : ¬ (k ≥ (σ0 o 2 + 2 * σ0 o 0)) := hc1
      refine jw_W_n 2 (i' := 11) (ls' := [some (.inr (.inr 47)), some (.inr (.inr o)), some (.inl u), some (.inl v), some (.inl k), a5]) (st' := [.inl u, .inl k]) rfl ?_
      refine jw_W_ic rfl (by unfold jw_rg; omega) (by unfold jw_rg; omega) (fun hc2 => ?_) (fun hc2 => ?_)
      · have hc2 : k = u := hc2
        refine jw_W_n 2 (i' := 5) (ls' := [some (.inr (.inr 47)), some (.inr (.inr o)), some (.inl u), some (.inl v), some (.inl (k + 1)), a5]) (st' := []) rfl ?_
        exact ih (by omega) (by rw [show (k + 1).toNat = k.toNat + 1 by omega]; unfold jx_fL; rw [if_pos (by omega)]; exact H)
      · have hc2 : ¬ (k = u) := hc2
        refine jw_W_n 2 (i' := 14) (ls' := [some (.inr (.inr 47)), some (.inr (.inr o)), some (.inl u), some (.inl v), some (.inl k), a5]) (st' := [.inl k, .inr (.inr o)]) rfl ?_
        refine jw_W_call (as := [.inr (.inr o), .inl k]) (rest := []) rfl rfl rfl rfl (Nat.le_of_ble_eq_true rfl) (.inr (jx_rc hp.2.1)) (jx_number hp hP1 k0 (by rw [f2, f0]; omega)) (by omega) ?_ rfl
        rintro r1 σ1 ⟨rfl, hs⟩
        rw [hs]
        show jw_W (js_S n) _ md_97 15 [some (.inr (.inr 47)), some (.inr (.inr o)), some (.inl u), some (.inl v), some (.inl k), a5] [.inl (jm_if (jx_M σ o) k)] σ _
        refine jw_W_n 2 (i' := 17) (ls' := [some (.inr (.inr 47)), some (.inr (.inr o)), some (.inl u), some (.inl v), some (.inl k), a5]) (st' := [.inl v, .inl k, .inl (jm_if (jx_M σ o) k)]) rfl ?_
        refine jw_W_ic rfl (by unfold jw_rg; omega) (by unfold jw_rg; omega) (fun hc3 => ?_) (fun hc3 => ?_)
        · have hc3 : k ≠ v := hc3
          refine jw_W_n 7 (i' := 27) (ls' := [some (.inr (.inr 47)), some (.inr (.inr o)), some (.inl u), some (.inl v), some (.inl k), some (.inl ((jm_if (jx_M σ o) k) + 0))]) (st' := [.inl ((jm_if (jx_M σ o) k) + 0), .inl k, .inr (.inr o), .inr (.inr 47)]) rfl ?_
          refine jw_W_call (as := [.inr (.inr 47), .inr (.inr o), .inl k, .inl ((jm_if (jx_M σ o) k) + 0)]) (rest := []) rfl rfl rfl rfl (Nat.le_of_ble_eq_true rfl) (.inr rfl) (jx_boundPlane hp hP1 k0 (by rw [f2, f0]; omega) (by omega) (by omega)) (by omega) ?_ rfl
          rintro r1 σ1 ⟨rfl, hs⟩
          rw [hs]
          show jw_W (js_S n) _ md_97 28 [some (.inr (.inr 47)), some (.inr (.inr o)), some (.inl u), some (.inl v), some (.inl k), some (.inl ((jm_if (jx_M σ o) k) + 0))] [] ((jx_bo σ (jx_rn (jx_M σ o) k ((jm_if (jx_M σ o) k) + 0)))) _
          refine jw_W_n 2 (i' := 5) (ls' := [some (.inr (.inr 47)), some (.inr (.inr o)), some (.inl u), some (.inl v), some (.inl (k + 1)), some (.inl ((jm_if (jx_M σ o) k) + 0))]) (st' := []) rfl ?_
          have hz := jx_bs_s (jx_rn (jx_M σ0 o) k (jm_if (jx_M σ0 o) k + 0)) H
          rw [jx_pq_rn hpq k0, jx_pq_if hpq k0 (by rw [jx_M5, jx_M3]; omega) (by rw [jx_M3]; omega)]
          exact ih (by omega) (by
            rw [show (k + 1).toNat = k.toNat + 1 by omega]
            unfold jx_fL
            rw [if_neg (by omega), show ((k.toNat : Nat) : Int) = k by omega]
            first | rw [if_pos (by omega)] | rw [if_neg (by omega)]
            exact hz)
        · have hc3 : k = v := Classical.not_not.mp hc3
          refine jw_W_n 8 (i' := 27) (ls' := [some (.inr (.inr 47)), some (.inr (.inr o)), some (.inl u), some (.inl v), some (.inl k), some (.inl ((jm_if (jx_M σ o) k) + 1))]) (st' := [.inl ((jm_if (jx_M σ o) k) + 1), .inl k, .inr (.inr o), .inr (.inr 47)]) rfl ?_
          refine jw_W_call (as := [.inr (.inr 47), .inr (.inr o), .inl k, .inl ((jm_if (jx_M σ o) k) + 1)]) (rest := []) rfl rfl rfl rfl (Nat.le_of_ble_eq_true rfl) (.inr rfl) (jx_boundPlane hp hP1 k0 (by rw [f2, f0]; omega) (by omega) (by omega)) (by omega) ?_ rfl
          rintro r1 σ1 ⟨rfl, hs⟩
          rw [hs]
          show jw_W (js_S n) _ md_97 28 [some (.inr (.inr 47)), some (.inr (.inr o)), some (.inl u), some (.inl v), some (.inl k), some (.inl ((jm_if (jx_M σ o) k) + 1))] [] ((jx_bo σ (jx_rn (jx_M σ o) k ((jm_if (jx_M σ o) k) + 1)))) _
          refine jw_W_n 2 (i' := 5) (ls' := [some (.inr (.inr 47)), some (.inr (.inr o)), some (.inl u), some (.inl v), some (.inl (k + 1)), some (.inl ((jm_if (jx_M σ o) k) + 1))]) (st' := []) rfl ?_
          have hz := jx_bs_s (jx_rn (jx_M σ0 o) k (jm_if (jx_M σ0 o) k + 1)) H
          rw [jx_pq_rn hpq k0, jx_pq_if hpq k0 (by rw [jx_M5, jx_M3]; omega) (by rw [jx_M3]; omega)]
          exact ih (by omega) (by
            rw [show (k + 1).toNat = k.toNat + 1 by omega]
            unfold jx_fL
            rw [if_neg (by omega), show ((k.toNat : Nat) : Int) = k by omega]
            first | rw [if_pos (by omega)] | rw [if_neg (by omega)]
            exact hz)
theorem jx_fill {n : Nat} {σ : jw_H} {o : Nat} (hp : jx_po n o) {u v : Int} (hP : jx_Pb σ o) (hu : jw_rg u) (hv : jw_rg v) : jw_T (js_S n) 5 97 [.inr (.inr 47), .inr (.inr o), .inl u, .inl v] σ (fun r σ' => r = none ∧ jx_bs σ (jx_fL (jx_M σ o) u v (σ o 2 + 2 * σ o 0).toNat ++ jx_nx (σ o 0)) σ') := by
  refine jw_T_of (D := 4) (M := mm_97) rfl (Nat.le_of_ble_eq_true rfl) (ls0 := [some (.inr (.inr 47)), some (.inr (.inr o)), some (.inl u), some (.inl v), none, none]) rfl ?_ (by rintro _ _ ⟨rfl, -⟩; rfl)
  have ho := hp.1
  have hq := hP.1
  have hq2 := hP.2.2.1
  refine jw_W_n 2 (i' := 2) (ls' := [some (.inr (.inr 47)), some (.inr (.inr o)), some (.inl u), some (.inl v), none, none]) (st' := [.inl 0, .inr (.inr 47)]) rfl ?_
  refine jw_W_pf (a := 0) rfl (by omega) rfl rfl rfl rfl rfl ?_
  refine jw_W_n 2 (i' := 5) (ls' := [some (.inr (.inr 47)), some (.inr (.inr o)), some (.inl u), some (.inl v), some (.inl 0), none]) (st' := []) rfl ?_
  refine jx_fill_loop (D := 4) (by omega) hp hP hu hv (fun σ4 a H4 => ?_) (σ o 2 + 2 * σ o 0).toNat (k := 0) (by omega) (by omega) ⟨⟨fun o h1 h2 => jw_up_out _ _ _ h1, fun j hj => jw_up_ne _ (by omega)⟩, jw_up_eq _ _ _ _, fun i r hr => by simp [jx_fL] at hr⟩
  have f0 : σ4 o 0 = σ o 0 := by rw [jx_fb_o hp H4.1 o (by omega) (by omega)]
  have hlen := jx_fL_len (jx_M σ o) u v (σ o 2 + 2 * σ o 0).toNat
  have hn4 := H4.2.1
  refine jw_W_n 1 (i' := 31) (ls' := [some (.inr (.inr 47)), some (.inr (.inr o)), some (.inl u), some (.inl v), some (.inl (σ o 2 + 2 * σ o 0)), a]) (st' := [.inr (.inr o)]) rfl ?_
  refine jw_W_gf rfl hp.2.1 rfl ?_
  show jw_W (js_S n) _ md_97 32 [some (.inr (.inr 47)), some (.inr (.inr o)), some (.inl u), some (.inl v), some (.inl (σ o 2 + 2 * σ o 0)), a] [.inl (σ4 o 0)] σ4 _
  refine jw_W_n 1 (i' := 33) (ls' := [some (.inr (.inr 47)), some (.inr (.inr o)), some (.inl u), some (.inl v), some (.inl (σ4 o 0)), a]) (st' := []) rfl ?_
  rw [f0]
  rcases (show σ o 0 = 1 ∨ σ o 0 = 2 ∨ σ o 0 = 3 by omega) with hq4 | hq4 | hq4
  · rw [show ([some (.inr (.inr 47)), some (.inr (.inr o)), some (.inl u), some (.inl v), some (.inl (σ o 0)), a] : jw_L) = [some (.inr (.inr 47)), some (.inr (.inr o)), some (.inl u), some (.inl v), some (.inl 1), a] from by rw [hq4]]
    refine jw_W_n 2 (i' := 35) (ls' := [some (.inr (.inr 47)), some (.inr (.inr o)), some (.inl u), some (.inl v), some (.inl 1), a]) (st' := [.inl 3, .inl 1]) rfl ?_
    refine jw_W_ic rfl (by unfold jw_rg; omega) (by unfold jw_rg; omega) (fun hc1 => ?_) (fun hc1 => ?_)
    · exact absurd hc1 (show ¬ ((1 : Int) ≥ 3) by omega)
    · clear hc1
      refine jw_W_n 4 (i' := 40) (ls' := [some (.inr (.inr 47)), some (.inr (.inr o)), some (.inl u), some (.inl v), some (.inl 1), a]) (st' := [.inl 0, .inl ((-1)), .inl 1, .inr (.inr 47)]) rfl ?_
      refine jw_W_call (as := [.inr (.inr 47), .inl 1, .inl ((-1)), .inl 0]) (rest := []) rfl rfl rfl rfl (Nat.le_of_ble_eq_true rfl) (.inr rfl) (jx_boundAxis (by unfold jw_rg; omega) (by omega) (by omega)) (by omega) ?_ rfl
      rintro r1 σ1 ⟨rfl, hs⟩
      rw [hs]
      have H5 := jx_bs_s (jx_xr 1 (-1) 0) H4
      have hn5 := H5.2.1
      simp only [List.length_append, List.length_cons, List.length_nil] at hn5
      show jw_W (js_S n) _ md_97 41 [some (.inr (.inr 47)), some (.inr (.inr o)), some (.inl u), some (.inl v), some (.inl 1), a] [] ((jx_bo σ4 (jx_xr 1 (-1) 0))) _
      refine jw_W_n 4 (i' := 35) (ls' := [some (.inr (.inr 47)), some (.inr (.inr o)), some (.inl u), some (.inl v), some (.inl 2), a]) (st' := [.inl 3, .inl 2]) rfl ?_
      refine jw_W_ic rfl (by unfold jw_rg; omega) (by unfold jw_rg; omega) (fun hc2 => ?_) (fun hc2 => ?_)
      · exact absurd hc2 (show ¬ ((2 : Int) ≥ 3) by omega)
      · clear hc2
        refine jw_W_n 4 (i' := 40) (ls' := [some (.inr (.inr 47)), some (.inr (.inr o)), some (.inl u), some (.inl v), some (.inl 2), a]) (st' := [.inl 0, .inl ((-1)), .inl 2, .inr (.inr 47)]) rfl ?_
        refine jw_W_call (as := [.inr (.inr 47), .inl 2, .inl ((-1)), .inl 0]) (rest := []) rfl rfl rfl rfl (Nat.le_of_ble_eq_true rfl) (.inr rfl) (jx_boundAxis (by unfold jw_rg; omega) (by omega) (by omega)) (by omega) ?_ rfl
        rintro r1 σ1 ⟨rfl, hs⟩
        rw [hs]
        have H6 := jx_bs_s (jx_xr 2 (-1) 0) H5
        have hn6 := H6.2.1
        simp only [List.length_append, List.length_cons, List.length_nil] at hn6
        show jw_W (js_S n) _ md_97 41 [some (.inr (.inr 47)), some (.inr (.inr o)), some (.inl u), some (.inl v), some (.inl 2), a] [] ((jx_bo (jx_bo σ4 (jx_xr 1 (-1) 0)) (jx_xr 2 (-1) 0))) _
        refine jw_W_n 4 (i' := 35) (ls' := [some (.inr (.inr 47)), some (.inr (.inr o)), some (.inl u), some (.inl v), some (.inl 3), a]) (st' := [.inl 3, .inl 3]) rfl ?_
        refine jw_W_ic rfl (by unfold jw_rg; omega) (by unfold jw_rg; omega) (fun hc3 => ?_) (fun hc3 => ?_)
        · clear hc3
          refine jw_W_re rfl ?_
          refine ⟨rfl, ?_⟩
          rw [show jx_nx (σ o 0) = jx_nx 1 from by rw [hq4]]
          simp only [List.append_assoc, List.cons_append, List.nil_append] at H6
          exact H6
        · exact absurd hc3 (show ¬ ¬ ((3 : Int) ≥ 3) by omega)
  · rw [show ([some (.inr (.inr 47)), some (.inr (.inr o)), some (.inl u), some (.inl v), some (.inl (σ o 0)), a] : jw_L) = [some (.inr (.inr 47)), some (.inr (.inr o)), some (.inl u), some (.inl v), some (.inl 2), a] from by rw [hq4]]
    refine jw_W_n 2 (i' := 35) (ls' := [some (.inr (.inr 47)), some (.inr (.inr o)), some (.inl u), some (.inl v), some (.inl 2), a]) (st' := [.inl 3, .inl 2]) rfl ?_
    refine jw_W_ic rfl (by unfold jw_rg; omega) (by unfold jw_rg; omega) (fun hc1 => ?_) (fun hc1 => ?_)
    · exact absurd hc1 (show ¬ ((2 : Int) ≥ 3) by omega)
    · clear hc1
      refine jw_W_n 4 (i' := 40) (ls' := [some (.inr (.inr 47)), some (.inr (.inr o)), some (.inl u), some (.inl v), some (.inl 2), a]) (st' := [.inl 0, .inl ((-1)), .inl 2, .inr (.inr 47)]) rfl ?_
      refine jw_W_call (as := [.inr (.inr 47), .inl 2, .inl ((-1)), .inl 0]) (rest := []) rfl rfl rfl rfl (Nat.le_of_ble_eq_true rfl) (.inr rfl) (jx_boundAxis (by unfold jw_rg; omega) (by omega) (by omega)) (by omega) ?_ rfl
      rintro r1 σ1 ⟨rfl, hs⟩
      rw [hs]
      have H5 := jx_bs_s (jx_xr 2 (-1) 0) H4
      have hn5 := H5.2.1
      simp only [List.length_append, List.length_cons, List.length_nil] at hn5
      show jw_W (js_S n) _ md_97 41 [some (.inr (.inr 47)), some (.inr (.inr o)), some (.inl u), some (.inl v), some (.inl 2), a] [] ((jx_bo σ4 (jx_xr 2 (-1) 0))) _
      refine jw_W_n 4 (i' := 35) (ls' := [some (.inr (.inr 47)), some (.inr (.inr o)), some (.inl u), some (.inl v), some (.inl 3), a]) (st' := [.inl 3, .inl 3]) rfl ?_
      refine jw_W_ic rfl (by unfold jw_rg; omega) (by unfold jw_rg; omega) (fun hc2 => ?_) (fun hc2 => ?_)
      · clear hc2
        refine jw_W_re rfl ?_
        refine ⟨rfl, ?_⟩
        rw [show jx_nx (σ o 0) = jx_nx 2 from by rw [hq4]]
        exact H5
      · exact absurd hc2 (show ¬ ¬ ((3 : Int) ≥ 3) by omega)
  · rw [show ([some (.inr (.inr 47)), some (.inr (.inr o)), some (.inl u), some (.inl v), some (.inl (σ o 0)), a] : jw_L) = [some (.inr (.inr 47)), some (.inr (.inr o)), some (.inl u), some (.inl v), some (.inl 3), a] from by rw [hq4]]
    refine jw_W_n 2 (i' := 35) (ls' := [some (.inr (.inr 47)), some (.inr (.inr o)), some (.inl u), some (.inl v), some (.inl 3), a]) (st' := [.inl 3, .inl 3]) rfl ?_
    refine jw_W_ic rfl (by unfold jw_rg; omega) (by unfold jw_rg; omega) (fun hc1 => ?_) (fun hc1 => ?_)
    · clear hc1
      refine jw_W_re rfl ?_
      refine ⟨rfl, ?_⟩
      rw [show jx_nx (σ o 0) = jx_nx 3 from by rw [hq4]]
      rw [show jx_nx 3 = [] from rfl, List.append_nil]
      exact H4
    · exact absurd hc1 (show ¬ ¬ ((3 : Int) ≥ 3) by omega)

/-! ===== the law, the reference: codes, step by step ===== -/
theorem jl_word {o v : Int} (ho : 0 ≤ o ∧ o ≤ 14) (hv : 0 ≤ v ∧ v < 1048576) : jw_div (1048576 * o + v) 1048576 = o ∧ jw_rem (1048576 * o + v) 1048576 = v := by
  rw [jn_dv (by omega) (by omega) (by omega) (by omega), jm_rem (by omega) (by omega) (by omega) (by omega)]
  omega
theorem jl_reckon {n : Nat} {σ : jw_H} {o x y : Int} (ho : 2 ≤ o ∧ o ≤ 9) (hx : jw_rg x) (hy : jw_rg y) (h0 : o = 5 ∨ o = 6 → y ≠ 0)  : jw_T (js_S n) 1 208 [.inl o, .inl x, .inl y] σ (fun r σ' => r = some (.inl (jl_rk o x y)) ∧ σ' = σ) := by
  refine jw_T_of (D := 0) (M := mm_208) rfl (Nat.le_of_ble_eq_true rfl) (ls0 := [some (.inl o), some (.inl x), some (.inl y)]) rfl ?_ (by rintro _ _ ⟨rfl, -⟩; rfl)
  have rx := hx
  have ry := hy
  unfold jw_rg at rx ry
  refine jw_W_n 1 (i' := 1) (ls' := [some (.inl o), some (.inl x), some (.inl y)]) (st' := [.inl o]) rfl ?_
  refine jw_W_sw rfl (by unfold jw_rg; omega) rfl (fun hc1 => ?_) (fun hc1a hc1b t ht => ?_)
  · have hc1 : o < 2 ∨ 8 < o := hc1
    refine jw_W_n 2 (i' := 38) (ls' := [some (.inl o), some (.inl x), some (.inl y)]) (st' := [.inl y, .inl x]) rfl ?_
    refine jw_W_ic rfl (by unfold jw_rg; omega) (by unfold jw_rg; omega) (fun hc2 => ?_) (fun hc2 => ?_)
    · have hc2 : x ≠ y := hc2
      refine jw_W_n 1 (i' := 42) (ls' := [some (.inl o), some (.inl x), some (.inl y)]) (st' := [.inl 0]) rfl ?_
      refine jw_W_ir rfl ?_
      exact ⟨by rw [show o = 9 by omega]; show some (Sum.inl (0 : Int)) = some (Sum.inl (if x = y then 1 else 0)); rw [if_neg (by omega)], rfl⟩
    · have hc2 : x = y := Classical.not_not.mp hc2
      refine jw_W_n 2 (i' := 42) (ls' := [some (.inl o), some (.inl x), some (.inl y)]) (st' := [.inl 1]) rfl ?_
      refine jw_W_ir rfl ?_
      exact ⟨by rw [show o = 9 by omega]; show some (Sum.inl (1 : Int)) = some (Sum.inl (if x = y then 1 else 0)); rw [if_pos (by omega)], rfl⟩
  · rcases (show o = 2 ∨ o = 3 ∨ o = 4 ∨ o = 5 ∨ o = 6 ∨ o = 7 ∨ o = 8 by omega) with hc1 | hc1 | hc1 | hc1 | hc1 | hc1 | hc1
    · obtain rfl : 2 = t := by rw [hc1] at ht; exact Option.some.inj ht
      refine jw_W_n 3 (i' := 5) (ls' := [some (.inl o), some (.inl x), some (.inl y)]) (st' := [.inl (x + y)]) rfl ?_
      refine jl_W_n ?_
      refine jw_W_ir rfl ?_
      exact ⟨by rw [show o = 2 by omega]; rfl, rfl⟩
    · obtain rfl : 6 = t := by rw [hc1] at ht; exact Option.some.inj ht
      refine jw_W_n 3 (i' := 9) (ls' := [some (.inl o), some (.inl x), some (.inl y)]) (st' := [.inl (x - y)]) rfl ?_
      refine jl_W_n ?_
      refine jw_W_ir rfl ?_
      exact ⟨by rw [show o = 3 by omega]; rfl, rfl⟩
    · obtain rfl : 10 = t := by rw [hc1] at ht; exact Option.some.inj ht
      refine jw_W_n 3 (i' := 13) (ls' := [some (.inl o), some (.inl x), some (.inl y)]) (st' := [.inl (x * y)]) rfl ?_
      refine jl_W_n ?_
      refine jw_W_ir rfl ?_
      exact ⟨by rw [show o = 4 by omega]; rfl, rfl⟩
    · obtain rfl : 14 = t := by rw [hc1] at ht; exact Option.some.inj ht
      refine jw_W_n 2 (i' := 16) (ls' := [some (.inl o), some (.inl x), some (.inl y)]) (st' := [.inl y, .inl x]) rfl ?_
      refine jw_W_idiv rfl (by unfold jw_rg; omega) (by omega) ?_
      refine jw_W_ir rfl ?_
      exact ⟨by rw [show o = 5 by omega]; rfl, rfl⟩
    · obtain rfl : 18 = t := by rw [hc1] at ht; exact Option.some.inj ht
      refine jw_W_n 2 (i' := 20) (ls' := [some (.inl o), some (.inl x), some (.inl y)]) (st' := [.inl y, .inl x]) rfl ?_
      refine jw_W_irem rfl (by unfold jw_rg; omega) (by omega) ?_
      refine jw_W_ir rfl ?_
      exact ⟨by rw [show o = 6 by omega]; rfl, rfl⟩
    · obtain rfl : 22 = t := by rw [hc1] at ht; exact Option.some.inj ht
      refine jw_W_n 2 (i' := 24) (ls' := [some (.inl o), some (.inl x), some (.inl y)]) (st' := [.inl y, .inl x]) rfl ?_
      refine jw_W_ic rfl (by unfold jw_rg; omega) (by unfold jw_rg; omega) (fun hc3 => ?_) (fun hc3 => ?_)
      · have hc3 : x ≥ y := hc3
        refine jw_W_n 1 (i' := 28) (ls' := [some (.inl o), some (.inl x), some (.inl y)]) (st' := [.inl 0]) rfl ?_
        refine jw_W_ir rfl ?_
        exact ⟨by rw [show o = 7 by omega]; show some (Sum.inl (0 : Int)) = some (Sum.inl (if x < y then 1 else 0)); rw [if_neg (by omega)], rfl⟩
      · have hc3 : ¬ (x ≥ y) := hc3
        refine jw_W_n 2 (i' := 28) (ls' := [some (.inl o), some (.inl x), some (.inl y)]) (st' := [.inl 1]) rfl ?_
        refine jw_W_ir rfl ?_
        exact ⟨by rw [show o = 7 by omega]; show some (Sum.inl (1 : Int)) = some (Sum.inl (if x < y then 1 else 0)); rw [if_pos (by omega)], rfl⟩
    · obtain rfl : 29 = t := by rw [hc1] at ht; exact Option.some.inj ht
      refine jw_W_n 2 (i' := 31) (ls' := [some (.inl o), some (.inl x), some (.inl y)]) (st' := [.inl y, .inl x]) rfl ?_
      refine jw_W_ic rfl (by unfold jw_rg; omega) (by unfold jw_rg; omega) (fun hc4 => ?_) (fun hc4 => ?_)
      · have hc4 : x ≤ y := hc4
        refine jw_W_n 1 (i' := 35) (ls' := [some (.inl o), some (.inl x), some (.inl y)]) (st' := [.inl 0]) rfl ?_
        refine jw_W_ir rfl ?_
        exact ⟨by rw [show o = 8 by omega]; show some (Sum.inl (0 : Int)) = some (Sum.inl (if x > y then 1 else 0)); rw [if_neg (by omega)], rfl⟩
      · have hc4 : ¬ (x ≤ y) := hc4
        refine jw_W_n 2 (i' := 35) (ls' := [some (.inl o), some (.inl x), some (.inl y)]) (st' := [.inl 1]) rfl ?_
        refine jw_W_ir rfl ?_
        exact ⟨by rw [show o = 8 by omega]; show some (Sum.inl (1 : Int)) = some (Sum.inl (if x > y then 1 else 0)); rw [if_pos (by omega)], rfl⟩
theorem jl_st_num {n D : Nat} {σ : jw_H} {Q : Option jw_V → jw_H → Prop} {fr to c k v : Int} {r6 r7 : Option jw_V} (hk : k < to) (hk2 : 0 ≤ k ∧ to ≤ 260) (hw : σ 114 k = 1048576 * 0 + v) (hv : 0 ≤ v ∧ v < 1048576) (hc : 0 ≤ c ∧ c ≤ 260) (hD : 1 ≤ D) (hc2 : c < 260) (hK : jw_W (js_S n) D md_209 10 [some (.inr (.inr 103)), some (.inl fr), some (.inl to), some (.inl (c + 1)), some (.inl 0), some (.inl (k + 1)), some (.inl 0), some (.inl v)] [] (jw_up σ 119 c v) Q) : jw_W (js_S n) D md_209 10 [some (.inr (.inr 103)), some (.inl fr), some (.inl to), some (.inl c), some (.inl 0), some (.inl k), r6, r7] [] σ Q := by
  refine jw_W_n 2 (i' := 12) (ls' := [some (.inr (.inr 103)), some (.inl fr), some (.inl to), some (.inl c), some (.inl 0), some (.inl k), r6, r7]) (st' := [.inl to, .inl k]) rfl ?_
  refine jw_W_ic rfl (by unfold jw_rg; omega) (by unfold jw_rg; omega) (fun hc1 => ?_) (fun hc1 => ?_)
  · have hc1 : k ≥ to := hc1
    refine jw_W_n 1 (i' := 137) (ls' := [some (.inr (.inr 103)), some (.inl fr), some (.inl to), some (.inl c), some (.inl 0), some (.inl k), r6, r7]) (st' := [.inr (.inr 103)]) rfl ?_
    refine jw_W_gf rfl rfl rfl ?_
    show jw_W (js_S n) _ md_209 138 [some (.inr (.inr 103)), some (.inl fr), some (.inl to), some (.inl c), some (.inl 0), some (.inl k), r6, r7] [.inr (.inr 119)] σ _
    refine jw_W_n 1 (i' := 139) (ls' := [some (.inr (.inr 103)), some (.inl fr), some (.inl to), some (.inl c), some (.inl 0), some (.inl k), r6, r7]) (st' := [.inl 0, .inr (.inr 119)]) rfl ?_
    refine jw_W_ia rfl rfl (by omega) (by omega) (by omega) ?_
    show jw_W (js_S n) _ md_209 140 [some (.inr (.inr 103)), some (.inl fr), some (.inl to), some (.inl c), some (.inl 0), some (.inl k), r6, r7] [.inl (σ 119 0)] σ _
    refine jw_W_ir rfl ?_
    exfalso; omega
  · have hc1 : ¬ (k ≥ to) := hc1
    refine jw_W_n 1 (i' := 14) (ls' := [some (.inr (.inr 103)), some (.inl fr), some (.inl to), some (.inl c), some (.inl 0), some (.inl k), r6, r7]) (st' := [.inr (.inr 103)]) rfl ?_
    refine jw_W_gf rfl rfl rfl ?_
    show jw_W (js_S n) _ md_209 15 [some (.inr (.inr 103)), some (.inl fr), some (.inl to), some (.inl c), some (.inl 0), some (.inl k), r6, r7] [.inr (.inr 114)] σ _
    refine jw_W_n 1 (i' := 16) (ls' := [some (.inr (.inr 103)), some (.inl fr), some (.inl to), some (.inl c), some (.inl 0), some (.inl k), r6, r7]) (st' := [.inl k, .inr (.inr 114)]) rfl ?_
    refine jw_W_ia rfl rfl (by omega) (by omega) (by omega) ?_
    show jw_W (js_S n) _ md_209 17 [some (.inr (.inr 103)), some (.inl fr), some (.inl to), some (.inl c), some (.inl 0), some (.inl k), r6, r7] [.inl (σ 114 k)] σ _
    refine jw_W_ldc (z := 1048576) rfl rfl ?_
    refine jw_W_idiv rfl (by unfold jw_rg; omega) (by omega) ?_
    rw [hw, (jl_word (o := 0) (by omega) hv).1]
    refine jw_W_n 2 (i' := 21) (ls' := [some (.inr (.inr 103)), some (.inl fr), some (.inl to), some (.inl c), some (.inl 0), some (.inl k), some (.inl 0), r7]) (st' := [.inr (.inr 103)]) rfl ?_
    refine jw_W_gf rfl rfl rfl ?_
    show jw_W (js_S n) _ md_209 22 [some (.inr (.inr 103)), some (.inl fr), some (.inl to), some (.inl c), some (.inl 0), some (.inl k), some (.inl 0), r7] [.inr (.inr 114)] σ _
    refine jw_W_n 1 (i' := 23) (ls' := [some (.inr (.inr 103)), some (.inl fr), some (.inl to), some (.inl c), some (.inl 0), some (.inl k), some (.inl 0), r7]) (st' := [.inl k, .inr (.inr 114)]) rfl ?_
    refine jw_W_ia rfl rfl (by omega) (by omega) (by omega) ?_
    show jw_W (js_S n) _ md_209 24 [some (.inr (.inr 103)), some (.inl fr), some (.inl to), some (.inl c), some (.inl 0), some (.inl k), some (.inl 0), r7] [.inl (σ 114 k)] σ _
    refine jw_W_ldc (z := 1048576) rfl rfl ?_
    refine jw_W_irem rfl (by unfold jw_rg; omega) (by omega) ?_
    rw [hw, (jl_word (o := 0) (by omega) hv).2]
    refine jw_W_n 6 (i' := 32) (ls' := [some (.inr (.inr 103)), some (.inl fr), some (.inl to), some (.inl c), some (.inl 0), some (.inl (k + 1)), some (.inl 0), some (.inl v)]) (st' := [.inl 0]) rfl ?_
    refine jw_W_if rfl (by unfold jw_rg; omega) (fun hc2 => ?_) (fun hc2 => ?_)
    · clear hc2
      refine jw_W_n 1 (i' := 37) (ls' := [some (.inr (.inr 103)), some (.inl fr), some (.inl to), some (.inl c), some (.inl 0), some (.inl (k + 1)), some (.inl 0), some (.inl v)]) (st' := [.inr (.inr 103)]) rfl ?_
      refine jw_W_gf rfl rfl rfl ?_
      show jw_W (js_S n) _ md_209 38 [some (.inr (.inr 103)), some (.inl fr), some (.inl to), some (.inl c), some (.inl 0), some (.inl (k + 1)), some (.inl 0), some (.inl v)] [.inr (.inr 119)] σ _
      refine jw_W_n 2 (i' := 40) (ls' := [some (.inr (.inr 103)), some (.inl fr), some (.inl to), some (.inl c), some (.inl 0), some (.inl (k + 1)), some (.inl 0), some (.inl v)]) (st' := [.inl 0, .inl c, .inr (.inr 119)]) rfl ?_
      refine jw_W_if rfl (by unfold jw_rg; omega) (fun hc3 => ?_) (fun hc3 => ?_)
      · exact absurd hc3 (show ¬ ((0 : Int) ≠ 0) by omega)
      · clear hc3
        refine jw_W_n 2 (i' := 47) (ls' := [some (.inr (.inr 103)), some (.inl fr), some (.inl to), some (.inl c), some (.inl 0), some (.inl (k + 1)), some (.inl 0), some (.inl v)]) (st' := [.inl v, .inl c, .inr (.inr 119)]) rfl ?_
        refine jw_W_is rfl (by omega) rfl (by omega) (by omega) (by omega) ?_
        refine jw_W_n 6 (i' := 10) (ls' := [some (.inr (.inr 103)), some (.inl fr), some (.inl to), some (.inl (c + 1)), some (.inl 0), some (.inl (k + 1)), some (.inl 0), some (.inl v)]) (st' := []) rfl ?_
        exact hK
    · exact absurd hc2 (show ¬ ¬ ((0 : Int) = 0) by omega)
theorem jl_st_let {n D : Nat} {σ : jw_H} {Q : Option jw_V → jw_H → Prop} {fr to c k v : Int} {r6 r7 : Option jw_V} (hk : k < to) (hk2 : 0 ≤ k ∧ to ≤ 260) (hw : σ 114 k = 1048576 * 1 + v) (hv : 0 ≤ v ∧ v < 1048576) (hc : 0 ≤ c ∧ c ≤ 260) (hD : 1 ≤ D) (hc2 : c < 260) (hv7 : v < 7) (hK : jw_W (js_S n) D md_209 10 [some (.inr (.inr 103)), some (.inl fr), some (.inl to), some (.inl (c + 1)), some (.inl 0), some (.inl (k + 1)), some (.inl 1), some (.inl v)] [] (jw_up σ 119 c (σ 120 v)) Q) : jw_W (js_S n) D md_209 10 [some (.inr (.inr 103)), some (.inl fr), some (.inl to), some (.inl c), some (.inl 0), some (.inl k), r6, r7] [] σ Q := by
  refine jw_W_n 2 (i' := 12) (ls' := [some (.inr (.inr 103)), some (.inl fr), some (.inl to), some (.inl c), some (.inl 0), some (.inl k), r6, r7]) (st' := [.inl to, .inl k]) rfl ?_
  refine jw_W_ic rfl (by unfold jw_rg; omega) (by unfold jw_rg; omega) (fun hc1 => ?_) (fun hc1 => ?_)
  · have hc1 : k ≥ to := hc1
    refine jw_W_n 1 (i' := 137) (ls' := [some (.inr (.inr 103)), some (.inl fr), some (.inl to), some (.inl c), some (.inl 0), some (.inl k), r6, r7]) (st' := [.inr (.inr 103)]) rfl ?_
    refine jw_W_gf rfl rfl rfl ?_
    show jw_W (js_S n) _ md_209 138 [some (.inr (.inr 103)), some (.inl fr), some (.inl to), some (.inl c), some (.inl 0), some (.inl k), r6, r7] [.inr (.inr 119)] σ _
    refine jw_W_n 1 (i' := 139) (ls' := [some (.inr (.inr 103)), some (.inl fr), some (.inl to), some (.inl c), some (.inl 0), some (.inl k), r6, r7]) (st' := [.inl 0, .inr (.inr 119)]) rfl ?_
    refine jw_W_ia rfl rfl (by omega) (by omega) (by omega) ?_
    show jw_W (js_S n) _ md_209 140 [some (.inr (.inr 103)), some (.inl fr), some (.inl to), some (.inl c), some (.inl 0), some (.inl k), r6, r7] [.inl (σ 119 0)] σ _
    refine jw_W_ir rfl ?_
    exfalso; omega
  · have hc1 : ¬ (k ≥ to) := hc1
    refine jw_W_n 1 (i' := 14) (ls' := [some (.inr (.inr 103)), some (.inl fr), some (.inl to), some (.inl c), some (.inl 0), some (.inl k), r6, r7]) (st' := [.inr (.inr 103)]) rfl ?_
    refine jw_W_gf rfl rfl rfl ?_
    show jw_W (js_S n) _ md_209 15 [some (.inr (.inr 103)), some (.inl fr), some (.inl to), some (.inl c), some (.inl 0), some (.inl k), r6, r7] [.inr (.inr 114)] σ _
    refine jw_W_n 1 (i' := 16) (ls' := [some (.inr (.inr 103)), some (.inl fr), some (.inl to), some (.inl c), some (.inl 0), some (.inl k), r6, r7]) (st' := [.inl k, .inr (.inr 114)]) rfl ?_
    refine jw_W_ia rfl rfl (by omega) (by omega) (by omega) ?_
    show jw_W (js_S n) _ md_209 17 [some (.inr (.inr 103)), some (.inl fr), some (.inl to), some (.inl c), some (.inl 0), some (.inl k), r6, r7] [.inl (σ 114 k)] σ _
    refine jw_W_ldc (z := 1048576) rfl rfl ?_
    refine jw_W_idiv rfl (by unfold jw_rg; omega) (by omega) ?_
    rw [hw, (jl_word (o := 1) (by omega) hv).1]
    refine jw_W_n 2 (i' := 21) (ls' := [some (.inr (.inr 103)), some (.inl fr), some (.inl to), some (.inl c), some (.inl 0), some (.inl k), some (.inl 1), r7]) (st' := [.inr (.inr 103)]) rfl ?_
    refine jw_W_gf rfl rfl rfl ?_
    show jw_W (js_S n) _ md_209 22 [some (.inr (.inr 103)), some (.inl fr), some (.inl to), some (.inl c), some (.inl 0), some (.inl k), some (.inl 1), r7] [.inr (.inr 114)] σ _
    refine jw_W_n 1 (i' := 23) (ls' := [some (.inr (.inr 103)), some (.inl fr), some (.inl to), some (.inl c), some (.inl 0), some (.inl k), some (.inl 1), r7]) (st' := [.inl k, .inr (.inr 114)]) rfl ?_
    refine jw_W_ia rfl rfl (by omega) (by omega) (by omega) ?_
    show jw_W (js_S n) _ md_209 24 [some (.inr (.inr 103)), some (.inl fr), some (.inl to), some (.inl c), some (.inl 0), some (.inl k), some (.inl 1), r7] [.inl (σ 114 k)] σ _
    refine jw_W_ldc (z := 1048576) rfl rfl ?_
    refine jw_W_irem rfl (by unfold jw_rg; omega) (by omega) ?_
    rw [hw, (jl_word (o := 1) (by omega) hv).2]
    refine jw_W_n 6 (i' := 32) (ls' := [some (.inr (.inr 103)), some (.inl fr), some (.inl to), some (.inl c), some (.inl 0), some (.inl (k + 1)), some (.inl 1), some (.inl v)]) (st' := [.inl 1]) rfl ?_
    refine jw_W_if rfl (by unfold jw_rg; omega) (fun hc2 => ?_) (fun hc2 => ?_)
    · exact absurd hc2 (show ¬ ((1 : Int) = 0) by omega)
    · clear hc2
      refine jw_W_n 2 (i' := 35) (ls' := [some (.inr (.inr 103)), some (.inl fr), some (.inl to), some (.inl c), some (.inl 0), some (.inl (k + 1)), some (.inl 1), some (.inl v)]) (st' := [.inl 1, .inl 1]) rfl ?_
      refine jw_W_ic rfl (by unfold jw_rg; omega) (by unfold jw_rg; omega) (fun hc3 => ?_) (fun hc3 => ?_)
      · exact absurd hc3 (show ¬ ((1 : Int) ≠ 1) by omega)
      · clear hc3
        refine jw_W_n 1 (i' := 37) (ls' := [some (.inr (.inr 103)), some (.inl fr), some (.inl to), some (.inl c), some (.inl 0), some (.inl (k + 1)), some (.inl 1), some (.inl v)]) (st' := [.inr (.inr 103)]) rfl ?_
        refine jw_W_gf rfl rfl rfl ?_
        show jw_W (js_S n) _ md_209 38 [some (.inr (.inr 103)), some (.inl fr), some (.inl to), some (.inl c), some (.inl 0), some (.inl (k + 1)), some (.inl 1), some (.inl v)] [.inr (.inr 119)] σ _
        refine jw_W_n 2 (i' := 40) (ls' := [some (.inr (.inr 103)), some (.inl fr), some (.inl to), some (.inl c), some (.inl 0), some (.inl (k + 1)), some (.inl 1), some (.inl v)]) (st' := [.inl 1, .inl c, .inr (.inr 119)]) rfl ?_
        refine jw_W_if rfl (by unfold jw_rg; omega) (fun hc4 => ?_) (fun hc4 => ?_)
        · clear hc4
          refine jw_W_n 1 (i' := 44) (ls' := [some (.inr (.inr 103)), some (.inl fr), some (.inl to), some (.inl c), some (.inl 0), some (.inl (k + 1)), some (.inl 1), some (.inl v)]) (st' := [.inr (.inr 103), .inl c, .inr (.inr 119)]) rfl ?_
          refine jw_W_gf rfl rfl rfl ?_
          show jw_W (js_S n) _ md_209 45 [some (.inr (.inr 103)), some (.inl fr), some (.inl to), some (.inl c), some (.inl 0), some (.inl (k + 1)), some (.inl 1), some (.inl v)] [.inr (.inr 120), .inl c, .inr (.inr 119)] σ _
          refine jw_W_n 1 (i' := 46) (ls' := [some (.inr (.inr 103)), some (.inl fr), some (.inl to), some (.inl c), some (.inl 0), some (.inl (k + 1)), some (.inl 1), some (.inl v)]) (st' := [.inl v, .inr (.inr 120), .inl c, .inr (.inr 119)]) rfl ?_
          refine jw_W_ia rfl rfl (by omega) (by omega) (by omega) ?_
          show jw_W (js_S n) _ md_209 47 [some (.inr (.inr 103)), some (.inl fr), some (.inl to), some (.inl c), some (.inl 0), some (.inl (k + 1)), some (.inl 1), some (.inl v)] [.inl (σ 120 v), .inl c, .inr (.inr 119)] σ _
          refine jw_W_is rfl (by omega) rfl (by omega) (by omega) (by omega) ?_
          refine jw_W_n 6 (i' := 10) (ls' := [some (.inr (.inr 103)), some (.inl fr), some (.inl to), some (.inl (c + 1)), some (.inl 0), some (.inl (k + 1)), some (.inl 1), some (.inl v)]) (st' := []) rfl ?_
          exact hK
        · exact absurd hc4 (show ¬ ¬ ((1 : Int) ≠ 0) by omega)
theorem jl_st_not {n D : Nat} {σ : jw_H} {Q : Option jw_V → jw_H → Prop} {fr to c k v : Int} {r6 r7 : Option jw_V} (hk : k < to) (hk2 : 0 ≤ k ∧ to ≤ 260) (hw : σ 114 k = 1048576 * 10 + v) (hv : 0 ≤ v ∧ v < 1048576) (hc : 0 ≤ c ∧ c ≤ 260) (hD : 1 ≤ D) (hc1 : 1 ≤ c) (hK : jw_W (js_S n) D md_209 10 [some (.inr (.inr 103)), some (.inl fr), some (.inl to), some (.inl c), some (.inl 0), some (.inl (k + 1)), some (.inl 10), some (.inl v)] [] (jw_up σ 119 (c - 1) (1 - σ 119 (c - 1))) Q) : jw_W (js_S n) D md_209 10 [some (.inr (.inr 103)), some (.inl fr), some (.inl to), some (.inl c), some (.inl 0), some (.inl k), r6, r7] [] σ Q := by
  refine jw_W_n 2 (i' := 12) (ls' := [some (.inr (.inr 103)), some (.inl fr), some (.inl to), some (.inl c), some (.inl 0), some (.inl k), r6, r7]) (st' := [.inl to, .inl k]) rfl ?_
  refine jw_W_ic rfl (by unfold jw_rg; omega) (by unfold jw_rg; omega) (fun hc1 => ?_) (fun hc1 => ?_)
  · have hc1 : k ≥ to := hc1
    refine jw_W_n 1 (i' := 137) (ls' := [some (.inr (.inr 103)), some (.inl fr), some (.inl to), some (.inl c), some (.inl 0), some (.inl k), r6, r7]) (st' := [.inr (.inr 103)]) rfl ?_
    refine jw_W_gf rfl rfl rfl ?_
    show jw_W (js_S n) _ md_209 138 [some (.inr (.inr 103)), some (.inl fr), some (.inl to), some (.inl c), some (.inl 0), some (.inl k), r6, r7] [.inr (.inr 119)] σ _
    refine jw_W_n 1 (i' := 139) (ls' := [some (.inr (.inr 103)), some (.inl fr), some (.inl to), some (.inl c), some (.inl 0), some (.inl k), r6, r7]) (st' := [.inl 0, .inr (.inr 119)]) rfl ?_
    refine jw_W_ia rfl rfl (by omega) (by omega) (by omega) ?_
    show jw_W (js_S n) _ md_209 140 [some (.inr (.inr 103)), some (.inl fr), some (.inl to), some (.inl c), some (.inl 0), some (.inl k), r6, r7] [.inl (σ 119 0)] σ _
    refine jw_W_ir rfl ?_
    exfalso; omega
  · have hc1 : ¬ (k ≥ to) := hc1
    refine jw_W_n 1 (i' := 14) (ls' := [some (.inr (.inr 103)), some (.inl fr), some (.inl to), some (.inl c), some (.inl 0), some (.inl k), r6, r7]) (st' := [.inr (.inr 103)]) rfl ?_
    refine jw_W_gf rfl rfl rfl ?_
    show jw_W (js_S n) _ md_209 15 [some (.inr (.inr 103)), some (.inl fr), some (.inl to), some (.inl c), some (.inl 0), some (.inl k), r6, r7] [.inr (.inr 114)] σ _
    refine jw_W_n 1 (i' := 16) (ls' := [some (.inr (.inr 103)), some (.inl fr), some (.inl to), some (.inl c), some (.inl 0), some (.inl k), r6, r7]) (st' := [.inl k, .inr (.inr 114)]) rfl ?_
    refine jw_W_ia rfl rfl (by omega) (by omega) (by omega) ?_
    show jw_W (js_S n) _ md_209 17 [some (.inr (.inr 103)), some (.inl fr), some (.inl to), some (.inl c), some (.inl 0), some (.inl k), r6, r7] [.inl (σ 114 k)] σ _
    refine jw_W_ldc (z := 1048576) rfl rfl ?_
    refine jw_W_idiv rfl (by unfold jw_rg; omega) (by omega) ?_
    rw [hw, (jl_word (o := 10) (by omega) hv).1]
    refine jw_W_n 2 (i' := 21) (ls' := [some (.inr (.inr 103)), some (.inl fr), some (.inl to), some (.inl c), some (.inl 0), some (.inl k), some (.inl 10), r7]) (st' := [.inr (.inr 103)]) rfl ?_
    refine jw_W_gf rfl rfl rfl ?_
    show jw_W (js_S n) _ md_209 22 [some (.inr (.inr 103)), some (.inl fr), some (.inl to), some (.inl c), some (.inl 0), some (.inl k), some (.inl 10), r7] [.inr (.inr 114)] σ _
    refine jw_W_n 1 (i' := 23) (ls' := [some (.inr (.inr 103)), some (.inl fr), some (.inl to), some (.inl c), some (.inl 0), some (.inl k), some (.inl 10), r7]) (st' := [.inl k, .inr (.inr 114)]) rfl ?_
    refine jw_W_ia rfl rfl (by omega) (by omega) (by omega) ?_
    show jw_W (js_S n) _ md_209 24 [some (.inr (.inr 103)), some (.inl fr), some (.inl to), some (.inl c), some (.inl 0), some (.inl k), some (.inl 10), r7] [.inl (σ 114 k)] σ _
    refine jw_W_ldc (z := 1048576) rfl rfl ?_
    refine jw_W_irem rfl (by unfold jw_rg; omega) (by omega) ?_
    rw [hw, (jl_word (o := 10) (by omega) hv).2]
    refine jw_W_n 6 (i' := 32) (ls' := [some (.inr (.inr 103)), some (.inl fr), some (.inl to), some (.inl c), some (.inl 0), some (.inl (k + 1)), some (.inl 10), some (.inl v)]) (st' := [.inl 10]) rfl ?_
    refine jw_W_if rfl (by unfold jw_rg; omega) (fun hc2 => ?_) (fun hc2 => ?_)
    · exact absurd hc2 (show ¬ ((10 : Int) = 0) by omega)
    · clear hc2
      refine jw_W_n 2 (i' := 35) (ls' := [some (.inr (.inr 103)), some (.inl fr), some (.inl to), some (.inl c), some (.inl 0), some (.inl (k + 1)), some (.inl 10), some (.inl v)]) (st' := [.inl 1, .inl 10]) rfl ?_
      refine jw_W_ic rfl (by unfold jw_rg; omega) (by unfold jw_rg; omega) (fun hc3 => ?_) (fun hc3 => ?_)
      · clear hc3
        refine jw_W_n 2 (i' := 55) (ls' := [some (.inr (.inr 103)), some (.inl fr), some (.inl to), some (.inl c), some (.inl 0), some (.inl (k + 1)), some (.inl 10), some (.inl v)]) (st' := [.inl 10, .inl 10]) rfl ?_
        refine jw_W_ic rfl (by unfold jw_rg; omega) (by unfold jw_rg; omega) (fun hc4 => ?_) (fun hc4 => ?_)
        · exact absurd hc4 (show ¬ ((10 : Int) ≠ 10) by omega)
        · clear hc4
          refine jw_W_n 1 (i' := 57) (ls' := [some (.inr (.inr 103)), some (.inl fr), some (.inl to), some (.inl c), some (.inl 0), some (.inl (k + 1)), some (.inl 10), some (.inl v)]) (st' := [.inr (.inr 103)]) rfl ?_
          refine jw_W_gf rfl rfl rfl ?_
          show jw_W (js_S n) _ md_209 58 [some (.inr (.inr 103)), some (.inl fr), some (.inl to), some (.inl c), some (.inl 0), some (.inl (k + 1)), some (.inl 10), some (.inl v)] [.inr (.inr 119)] σ _
          refine jw_W_n 5 (i' := 63) (ls' := [some (.inr (.inr 103)), some (.inl fr), some (.inl to), some (.inl c), some (.inl 0), some (.inl (k + 1)), some (.inl 10), some (.inl v)]) (st' := [.inr (.inr 103), .inl 1, .inl (c - 1), .inr (.inr 119)]) rfl ?_
          refine jw_W_gf rfl rfl rfl ?_
          show jw_W (js_S n) _ md_209 64 [some (.inr (.inr 103)), some (.inl fr), some (.inl to), some (.inl c), some (.inl 0), some (.inl (k + 1)), some (.inl 10), some (.inl v)] [.inr (.inr 119), .inl 1, .inl (c - 1), .inr (.inr 119)] σ _
          refine jw_W_n 3 (i' := 67) (ls' := [some (.inr (.inr 103)), some (.inl fr), some (.inl to), some (.inl c), some (.inl 0), some (.inl (k + 1)), some (.inl 10), some (.inl v)]) (st' := [.inl (c - 1), .inr (.inr 119), .inl 1, .inl (c - 1), .inr (.inr 119)]) rfl ?_
          refine jw_W_ia rfl rfl (by omega) (by omega) (by omega) ?_
          show jw_W (js_S n) _ md_209 68 [some (.inr (.inr 103)), some (.inl fr), some (.inl to), some (.inl c), some (.inl 0), some (.inl (k + 1)), some (.inl 10), some (.inl v)] [.inl (σ 119 (c - 1)), .inl 1, .inl (c - 1), .inr (.inr 119)] σ _
          refine jw_W_n 1 (i' := 69) (ls' := [some (.inr (.inr 103)), some (.inl fr), some (.inl to), some (.inl c), some (.inl 0), some (.inl (k + 1)), some (.inl 10), some (.inl v)]) (st' := [.inl (1 - (σ 119 (c - 1))), .inl (c - 1), .inr (.inr 119)]) rfl ?_
          refine jw_W_is rfl (by omega) rfl (by omega) (by omega) (by omega) ?_
          refine jw_W_n 2 (i' := 10) (ls' := [some (.inr (.inr 103)), some (.inl fr), some (.inl to), some (.inl c), some (.inl 0), some (.inl (k + 1)), some (.inl 10), some (.inl v)]) (st' := []) rfl ?_
          exact hK
      · exact absurd hc3 (show ¬ ¬ ((10 : Int) ≠ 1) by omega)
theorem jl_st_and {n D : Nat} {σ : jw_H} {Q : Option jw_V → jw_H → Prop} {fr to c k v : Int} {r6 r7 : Option jw_V} (hk : k < to) (hk2 : 0 ≤ k ∧ to ≤ 260) (hw : σ 114 k = 1048576 * 11 + v) (hv : 0 ≤ v ∧ v < 1048576) (hc : 0 ≤ c ∧ c ≤ 260) (hD : 1 ≤ D) (hc1 : 1 ≤ c) (hr : jw_rg (σ 119 (c - 1))) (hK : σ 119 (c - 1) = 0 → jw_W (js_S n) D md_209 10 [some (.inr (.inr 103)), some (.inl fr), some (.inl to), some (.inl c), some (.inl 0), some (.inl (0 + v)), some (.inl 11), some (.inl v)] [] σ Q) (hK2 : σ 119 (c - 1) ≠ 0 → jw_W (js_S n) D md_209 10 [some (.inr (.inr 103)), some (.inl fr), some (.inl to), some (.inl (c - 1)), some (.inl 0), some (.inl (k + 1)), some (.inl 11), some (.inl v)] [] σ Q) : jw_W (js_S n) D md_209 10 [some (.inr (.inr 103)), some (.inl fr), some (.inl to), some (.inl c), some (.inl 0), some (.inl k), r6, r7] [] σ Q := by
  have rr := hr
  unfold jw_rg at rr
  refine jw_W_n 2 (i' := 12) (ls' := [some (.inr (.inr 103)), some (.inl fr), some (.inl to), some (.inl c), some (.inl 0), some (.inl k), r6, r7]) (st' := [.inl to, .inl k]) rfl ?_
  refine jw_W_ic rfl (by unfold jw_rg; omega) (by unfold jw_rg; omega) (fun hc1 => ?_) (fun hc1 => ?_)
  · have hc1 : k ≥ to := hc1
    refine jw_W_n 1 (i' := 137) (ls' := [some (.inr (.inr 103)), some (.inl fr), some (.inl to), some (.inl c), some (.inl 0), some (.inl k), r6, r7]) (st' := [.inr (.inr 103)]) rfl ?_
    refine jw_W_gf rfl rfl rfl ?_
    show jw_W (js_S n) _ md_209 138 [some (.inr (.inr 103)), some (.inl fr), some (.inl to), some (.inl c), some (.inl 0), some (.inl k), r6, r7] [.inr (.inr 119)] σ _
    refine jw_W_n 1 (i' := 139) (ls' := [some (.inr (.inr 103)), some (.inl fr), some (.inl to), some (.inl c), some (.inl 0), some (.inl k), r6, r7]) (st' := [.inl 0, .inr (.inr 119)]) rfl ?_
    refine jw_W_ia rfl rfl (by omega) (by omega) (by omega) ?_
    show jw_W (js_S n) _ md_209 140 [some (.inr (.inr 103)), some (.inl fr), some (.inl to), some (.inl c), some (.inl 0), some (.inl k), r6, r7] [.inl (σ 119 0)] σ _
    refine jw_W_ir rfl ?_
    exfalso; omega
  · have hc1 : ¬ (k ≥ to) := hc1
    refine jw_W_n 1 (i' := 14) (ls' := [some (.inr (.inr 103)), some (.inl fr), some (.inl to), some (.inl c), some (.inl 0), some (.inl k), r6, r7]) (st' := [.inr (.inr 103)]) rfl ?_
    refine jw_W_gf rfl rfl rfl ?_
    show jw_W (js_S n) _ md_209 15 [some (.inr (.inr 103)), some (.inl fr), some (.inl to), some (.inl c), some (.inl 0), some (.inl k), r6, r7] [.inr (.inr 114)] σ _
    refine jw_W_n 1 (i' := 16) (ls' := [some (.inr (.inr 103)), some (.inl fr), some (.inl to), some (.inl c), some (.inl 0), some (.inl k), r6, r7]) (st' := [.inl k, .inr (.inr 114)]) rfl ?_
    refine jw_W_ia rfl rfl (by omega) (by omega) (by omega) ?_
    show jw_W (js_S n) _ md_209 17 [some (.inr (.inr 103)), some (.inl fr), some (.inl to), some (.inl c), some (.inl 0), some (.inl k), r6, r7] [.inl (σ 114 k)] σ _
    refine jw_W_ldc (z := 1048576) rfl rfl ?_
    refine jw_W_idiv rfl (by unfold jw_rg; omega) (by omega) ?_
    rw [hw, (jl_word (o := 11) (by omega) hv).1]
    refine jw_W_n 2 (i' := 21) (ls' := [some (.inr (.inr 103)), some (.inl fr), some (.inl to), some (.inl c), some (.inl 0), some (.inl k), some (.inl 11), r7]) (st' := [.inr (.inr 103)]) rfl ?_
    refine jw_W_gf rfl rfl rfl ?_
    show jw_W (js_S n) _ md_209 22 [some (.inr (.inr 103)), some (.inl fr), some (.inl to), some (.inl c), some (.inl 0), some (.inl k), some (.inl 11), r7] [.inr (.inr 114)] σ _
    refine jw_W_n 1 (i' := 23) (ls' := [some (.inr (.inr 103)), some (.inl fr), some (.inl to), some (.inl c), some (.inl 0), some (.inl k), some (.inl 11), r7]) (st' := [.inl k, .inr (.inr 114)]) rfl ?_
    refine jw_W_ia rfl rfl (by omega) (by omega) (by omega) ?_
    show jw_W (js_S n) _ md_209 24 [some (.inr (.inr 103)), some (.inl fr), some (.inl to), some (.inl c), some (.inl 0), some (.inl k), some (.inl 11), r7] [.inl (σ 114 k)] σ _
    refine jw_W_ldc (z := 1048576) rfl rfl ?_
    refine jw_W_irem rfl (by unfold jw_rg; omega) (by omega) ?_
    rw [hw, (jl_word (o := 11) (by omega) hv).2]
    refine jw_W_n 6 (i' := 32) (ls' := [some (.inr (.inr 103)), some (.inl fr), some (.inl to), some (.inl c), some (.inl 0), some (.inl (k + 1)), some (.inl 11), some (.inl v)]) (st' := [.inl 11]) rfl ?_
    refine jw_W_if rfl (by unfold jw_rg; omega) (fun hc2 => ?_) (fun hc2 => ?_)
    · exact absurd hc2 (show ¬ ((11 : Int) = 0) by omega)
    · clear hc2
      refine jw_W_n 2 (i' := 35) (ls' := [some (.inr (.inr 103)), some (.inl fr), some (.inl to), some (.inl c), some (.inl 0), some (.inl (k + 1)), some (.inl 11), some (.inl v)]) (st' := [.inl 1, .inl 11]) rfl ?_
      refine jw_W_ic rfl (by unfold jw_rg; omega) (by unfold jw_rg; omega) (fun hc3 => ?_) (fun hc3 => ?_)
      · clear hc3
        refine jw_W_n 2 (i' := 55) (ls' := [some (.inr (.inr 103)), some (.inl fr), some (.inl to), some (.inl c), some (.inl 0), some (.inl (k + 1)), some (.inl 11), some (.inl v)]) (st' := [.inl 10, .inl 11]) rfl ?_
        refine jw_W_ic rfl (by unfold jw_rg; omega) (by unfold jw_rg; omega) (fun hc4 => ?_) (fun hc4 => ?_)
        · clear hc4
          refine jw_W_n 2 (i' := 73) (ls' := [some (.inr (.inr 103)), some (.inl fr), some (.inl to), some (.inl c), some (.inl 0), some (.inl (k + 1)), some (.inl 11), some (.inl v)]) (st' := [.inl 11, .inl 11]) rfl ?_
          refine jw_W_ic rfl (by unfold jw_rg; omega) (by unfold jw_rg; omega) (fun hc5 => ?_) (fun hc5 => ?_)
          · clear hc5
            refine jw_W_n 1 (i' := 78) (ls' := [some (.inr (.inr 103)), some (.inl fr), some (.inl to), some (.inl c), some (.inl 0), some (.inl (k + 1)), some (.inl 11), some (.inl v)]) (st' := [.inr (.inr 103)]) rfl ?_
            refine jw_W_gf rfl rfl rfl ?_
            show jw_W (js_S n) _ md_209 79 [some (.inr (.inr 103)), some (.inl fr), some (.inl to), some (.inl c), some (.inl 0), some (.inl (k + 1)), some (.inl 11), some (.inl v)] [.inr (.inr 119)] σ _
            refine jw_W_n 3 (i' := 82) (ls' := [some (.inr (.inr 103)), some (.inl fr), some (.inl to), some (.inl c), some (.inl 0), some (.inl (k + 1)), some (.inl 11), some (.inl v)]) (st' := [.inl (c - 1), .inr (.inr 119)]) rfl ?_
            refine jw_W_ia rfl rfl (by omega) (by omega) (by omega) ?_
            show jw_W (js_S n) _ md_209 83 [some (.inr (.inr 103)), some (.inl fr), some (.inl to), some (.inl c), some (.inl 0), some (.inl (k + 1)), some (.inl 11), some (.inl v)] [.inl (σ 119 (c - 1))] σ _
            refine jw_W_n 2 (i' := 85) (ls' := [some (.inr (.inr 103)), some (.inl fr), some (.inl to), some (.inl c), some (.inl 0), some (.inl (k + 1)), some (.inl 11), some (.inl v)]) (st' := [.inl 12, .inl 11, .inl (σ 119 (c - 1))]) rfl ?_
            refine jw_W_ic rfl (by unfold jw_rg; omega) (by unfold jw_rg; omega) (fun hc6 => ?_) (fun hc6 => ?_)
            · clear hc6
              refine jw_W_n 1 (i' := 89) (ls' := [some (.inr (.inr 103)), some (.inl fr), some (.inl to), some (.inl c), some (.inl 0), some (.inl (k + 1)), some (.inl 11), some (.inl v)]) (st' := [.inl 0, .inl (σ 119 (c - 1))]) rfl ?_
              refine jw_W_ic rfl (by unfold jw_rg; omega) (by unfold jw_rg; omega) (fun hc7 => ?_) (fun hc7 => ?_)
              · have hc7 : (σ 119 (c - 1)) ≠ 0 := hc7
                refine jw_W_n 6 (i' := 10) (ls' := [some (.inr (.inr 103)), some (.inl fr), some (.inl to), some (.inl (c - 1)), some (.inl 0), some (.inl (k + 1)), some (.inl 11), some (.inl v)]) (st' := []) rfl ?_
                exact hK2 (by omega)
              · have hc7 : (σ 119 (c - 1)) = 0 := Classical.not_not.mp hc7
                refine jw_W_n 6 (i' := 10) (ls' := [some (.inr (.inr 103)), some (.inl fr), some (.inl to), some (.inl c), some (.inl 0), some (.inl (0 + v)), some (.inl 11), some (.inl v)]) (st' := []) rfl ?_
                exact hK (by omega)
            · exact absurd hc6 (show ¬ ¬ ((11 : Int) ≠ 12) by omega)
          · exact absurd hc5 (show ¬ ¬ ((11 : Int) = 11) by omega)
        · exact absurd hc4 (show ¬ ¬ ((11 : Int) ≠ 10) by omega)
      · exact absurd hc3 (show ¬ ¬ ((11 : Int) ≠ 1) by omega)
theorem jl_st_or {n D : Nat} {σ : jw_H} {Q : Option jw_V → jw_H → Prop} {fr to c k v : Int} {r6 r7 : Option jw_V} (hk : k < to) (hk2 : 0 ≤ k ∧ to ≤ 260) (hw : σ 114 k = 1048576 * 12 + v) (hv : 0 ≤ v ∧ v < 1048576) (hc : 0 ≤ c ∧ c ≤ 260) (hD : 1 ≤ D) (hc1 : 1 ≤ c) (hr : jw_rg (σ 119 (c - 1))) (hK : σ 119 (c - 1) = 1 → jw_W (js_S n) D md_209 10 [some (.inr (.inr 103)), some (.inl fr), some (.inl to), some (.inl c), some (.inl 0), some (.inl (0 + v)), some (.inl 12), some (.inl v)] [] σ Q) (hK2 : σ 119 (c - 1) ≠ 1 → jw_W (js_S n) D md_209 10 [some (.inr (.inr 103)), some (.inl fr), some (.inl to), some (.inl (c - 1)), some (.inl 0), some (.inl (k + 1)), some (.inl 12), some (.inl v)] [] σ Q) : jw_W (js_S n) D md_209 10 [some (.inr (.inr 103)), some (.inl fr), some (.inl to), some (.inl c), some (.inl 0), some (.inl k), r6, r7] [] σ Q := by
  have rr := hr
  unfold jw_rg at rr
  refine jw_W_n 2 (i' := 12) (ls' := [some (.inr (.inr 103)), some (.inl fr), some (.inl to), some (.inl c), some (.inl 0), some (.inl k), r6, r7]) (st' := [.inl to, .inl k]) rfl ?_
  refine jw_W_ic rfl (by unfold jw_rg; omega) (by unfold jw_rg; omega) (fun hc1 => ?_) (fun hc1 => ?_)
  · have hc1 : k ≥ to := hc1
    refine jw_W_n 1 (i' := 137) (ls' := [some (.inr (.inr 103)), some (.inl fr), some (.inl to), some (.inl c), some (.inl 0), some (.inl k), r6, r7]) (st' := [.inr (.inr 103)]) rfl ?_
    refine jw_W_gf rfl rfl rfl ?_
    show jw_W (js_S n) _ md_209 138 [some (.inr (.inr 103)), some (.inl fr), some (.inl to), some (.inl c), some (.inl 0), some (.inl k), r6, r7] [.inr (.inr 119)] σ _
    refine jw_W_n 1 (i' := 139) (ls' := [some (.inr (.inr 103)), some (.inl fr), some (.inl to), some (.inl c), some (.inl 0), some (.inl k), r6, r7]) (st' := [.inl 0, .inr (.inr 119)]) rfl ?_
    refine jw_W_ia rfl rfl (by omega) (by omega) (by omega) ?_
    show jw_W (js_S n) _ md_209 140 [some (.inr (.inr 103)), some (.inl fr), some (.inl to), some (.inl c), some (.inl 0), some (.inl k), r6, r7] [.inl (σ 119 0)] σ _
    refine jw_W_ir rfl ?_
    exfalso; omega
  · have hc1 : ¬ (k ≥ to) := hc1
    refine jw_W_n 1 (i' := 14) (ls' := [some (.inr (.inr 103)), some (.inl fr), some (.inl to), some (.inl c), some (.inl 0), some (.inl k), r6, r7]) (st' := [.inr (.inr 103)]) rfl ?_
    refine jw_W_gf rfl rfl rfl ?_
    show jw_W (js_S n) _ md_209 15 [some (.inr (.inr 103)), some (.inl fr), some (.inl to), some (.inl c), some (.inl 0), some (.inl k), r6, r7] [.inr (.inr 114)] σ _
    refine jw_W_n 1 (i' := 16) (ls' := [some (.inr (.inr 103)), some (.inl fr), some (.inl to), some (.inl c), some (.inl 0), some (.inl k), r6, r7]) (st' := [.inl k, .inr (.inr 114)]) rfl ?_
    refine jw_W_ia rfl rfl (by omega) (by omega) (by omega) ?_
    show jw_W (js_S n) _ md_209 17 [some (.inr (.inr 103)), some (.inl fr), some (.inl to), some (.inl c), some (.inl 0), some (.inl k), r6, r7] [.inl (σ 114 k)] σ _
    refine jw_W_ldc (z := 1048576) rfl rfl ?_
    refine jw_W_idiv rfl (by unfold jw_rg; omega) (by omega) ?_
    rw [hw, (jl_word (o := 12) (by omega) hv).1]
    refine jw_W_n 2 (i' := 21) (ls' := [some (.inr (.inr 103)), some (.inl fr), some (.inl to), some (.inl c), some (.inl 0), some (.inl k), some (.inl 12), r7]) (st' := [.inr (.inr 103)]) rfl ?_
    refine jw_W_gf rfl rfl rfl ?_
    show jw_W (js_S n) _ md_209 22 [some (.inr (.inr 103)), some (.inl fr), some (.inl to), some (.inl c), some (.inl 0), some (.inl k), some (.inl 12), r7] [.inr (.inr 114)] σ _
    refine jw_W_n 1 (i' := 23) (ls' := [some (.inr (.inr 103)), some (.inl fr), some (.inl to), some (.inl c), some (.inl 0), some (.inl k), some (.inl 12), r7]) (st' := [.inl k, .inr (.inr 114)]) rfl ?_
    refine jw_W_ia rfl rfl (by omega) (by omega) (by omega) ?_
    show jw_W (js_S n) _ md_209 24 [some (.inr (.inr 103)), some (.inl fr), some (.inl to), some (.inl c), some (.inl 0), some (.inl k), some (.inl 12), r7] [.inl (σ 114 k)] σ _
    refine jw_W_ldc (z := 1048576) rfl rfl ?_
    refine jw_W_irem rfl (by unfold jw_rg; omega) (by omega) ?_
    rw [hw, (jl_word (o := 12) (by omega) hv).2]
    refine jw_W_n 6 (i' := 32) (ls' := [some (.inr (.inr 103)), some (.inl fr), some (.inl to), some (.inl c), some (.inl 0), some (.inl (k + 1)), some (.inl 12), some (.inl v)]) (st' := [.inl 12]) rfl ?_
    refine jw_W_if rfl (by unfold jw_rg; omega) (fun hc2 => ?_) (fun hc2 => ?_)
    · exact absurd hc2 (show ¬ ((12 : Int) = 0) by omega)
    · clear hc2
      refine jw_W_n 2 (i' := 35) (ls' := [some (.inr (.inr 103)), some (.inl fr), some (.inl to), some (.inl c), some (.inl 0), some (.inl (k + 1)), some (.inl 12), some (.inl v)]) (st' := [.inl 1, .inl 12]) rfl ?_
      refine jw_W_ic rfl (by unfold jw_rg; omega) (by unfold jw_rg; omega) (fun hc3 => ?_) (fun hc3 => ?_)
      · clear hc3
        refine jw_W_n 2 (i' := 55) (ls' := [some (.inr (.inr 103)), some (.inl fr), some (.inl to), some (.inl c), some (.inl 0), some (.inl (k + 1)), some (.inl 12), some (.inl v)]) (st' := [.inl 10, .inl 12]) rfl ?_
        refine jw_W_ic rfl (by unfold jw_rg; omega) (by unfold jw_rg; omega) (fun hc4 => ?_) (fun hc4 => ?_)
        · clear hc4
          refine jw_W_n 2 (i' := 73) (ls' := [some (.inr (.inr 103)), some (.inl fr), some (.inl to), some (.inl c), some (.inl 0), some (.inl (k + 1)), some (.inl 12), some (.inl v)]) (st' := [.inl 11, .inl 12]) rfl ?_
          refine jw_W_ic rfl (by unfold jw_rg; omega) (by unfold jw_rg; omega) (fun hc5 => ?_) (fun hc5 => ?_)
          · exact absurd hc5 (show ¬ ((12 : Int) = 11) by omega)
          · clear hc5
            refine jw_W_n 2 (i' := 76) (ls' := [some (.inr (.inr 103)), some (.inl fr), some (.inl to), some (.inl c), some (.inl 0), some (.inl (k + 1)), some (.inl 12), some (.inl v)]) (st' := [.inl 12, .inl 12]) rfl ?_
            refine jw_W_ic rfl (by unfold jw_rg; omega) (by unfold jw_rg; omega) (fun hc6 => ?_) (fun hc6 => ?_)
            · exact absurd hc6 (show ¬ ((12 : Int) ≠ 12) by omega)
            · clear hc6
              refine jw_W_n 1 (i' := 78) (ls' := [some (.inr (.inr 103)), some (.inl fr), some (.inl to), some (.inl c), some (.inl 0), some (.inl (k + 1)), some (.inl 12), some (.inl v)]) (st' := [.inr (.inr 103)]) rfl ?_
              refine jw_W_gf rfl rfl rfl ?_
              show jw_W (js_S n) _ md_209 79 [some (.inr (.inr 103)), some (.inl fr), some (.inl to), some (.inl c), some (.inl 0), some (.inl (k + 1)), some (.inl 12), some (.inl v)] [.inr (.inr 119)] σ _
              refine jw_W_n 3 (i' := 82) (ls' := [some (.inr (.inr 103)), some (.inl fr), some (.inl to), some (.inl c), some (.inl 0), some (.inl (k + 1)), some (.inl 12), some (.inl v)]) (st' := [.inl (c - 1), .inr (.inr 119)]) rfl ?_
              refine jw_W_ia rfl rfl (by omega) (by omega) (by omega) ?_
              show jw_W (js_S n) _ md_209 83 [some (.inr (.inr 103)), some (.inl fr), some (.inl to), some (.inl c), some (.inl 0), some (.inl (k + 1)), some (.inl 12), some (.inl v)] [.inl (σ 119 (c - 1))] σ _
              refine jw_W_n 2 (i' := 85) (ls' := [some (.inr (.inr 103)), some (.inl fr), some (.inl to), some (.inl c), some (.inl 0), some (.inl (k + 1)), some (.inl 12), some (.inl v)]) (st' := [.inl 12, .inl 12, .inl (σ 119 (c - 1))]) rfl ?_
              refine jw_W_ic rfl (by unfold jw_rg; omega) (by unfold jw_rg; omega) (fun hc7 => ?_) (fun hc7 => ?_)
              · exact absurd hc7 (show ¬ ((12 : Int) ≠ 12) by omega)
              · clear hc7
                refine jw_W_n 2 (i' := 89) (ls' := [some (.inr (.inr 103)), some (.inl fr), some (.inl to), some (.inl c), some (.inl 0), some (.inl (k + 1)), some (.inl 12), some (.inl v)]) (st' := [.inl 1, .inl (σ 119 (c - 1))]) rfl ?_
                refine jw_W_ic rfl (by unfold jw_rg; omega) (by unfold jw_rg; omega) (fun hc8 => ?_) (fun hc8 => ?_)
                · have hc8 : (σ 119 (c - 1)) ≠ 1 := hc8
                  refine jw_W_n 6 (i' := 10) (ls' := [some (.inr (.inr 103)), some (.inl fr), some (.inl to), some (.inl (c - 1)), some (.inl 0), some (.inl (k + 1)), some (.inl 12), some (.inl v)]) (st' := []) rfl ?_
                  exact hK2 (by omega)
                · have hc8 : (σ 119 (c - 1)) = 1 := Classical.not_not.mp hc8
                  refine jw_W_n 6 (i' := 10) (ls' := [some (.inr (.inr 103)), some (.inl fr), some (.inl to), some (.inl c), some (.inl 0), some (.inl (0 + v)), some (.inl 12), some (.inl v)]) (st' := []) rfl ?_
                  exact hK (by omega)
        · exact absurd hc4 (show ¬ ¬ ((12 : Int) ≠ 10) by omega)
      · exact absurd hc3 (show ¬ ¬ ((12 : Int) ≠ 1) by omega)
theorem jl_st_bin {n D : Nat} {σ : jw_H} {Q : Option jw_V → jw_H → Prop} {fr to c k v : Int} {o : Int} {r6 r7 : Option jw_V} (hk : k < to) (hk2 : 0 ≤ k ∧ to ≤ 260) (hw : σ 114 k = 1048576 * o + v) (hv : 0 ≤ v ∧ v < 1048576) (hc : 0 ≤ c ∧ c ≤ 260) (hD : 1 ≤ D) (ho : 2 ≤ o ∧ o ≤ 9) (hc2 : 2 ≤ c) (hx : jw_rg (σ 119 (c - 1 - 1))) (hy : jw_rg (σ 119 (c - 1))) (hK0 : (o = 5 ∨ o = 6) → (σ 119 (c - 1)) = 0 → Q (some (.inl 0)) σ) (hK : ¬ ((o = 5 ∨ o = 6) ∧ (σ 119 (c - 1)) = 0) → jw_W (js_S n) D md_209 10 [some (.inr (.inr 103)), some (.inl fr), some (.inl to), some (.inl (c - 1)), some (.inl 0), some (.inl (k + 1)), some (.inl o), some (.inl v)] [] (jw_up σ 119 (c - 1 - 1) (jl_rk o (σ 119 (c - 1 - 1)) (σ 119 (c - 1)))) Q) : jw_W (js_S n) D md_209 10 [some (.inr (.inr 103)), some (.inl fr), some (.inl to), some (.inl c), some (.inl 0), some (.inl k), r6, r7] [] σ Q := by
  have rx := hx
  have ry := hy
  unfold jw_rg at rx ry
  refine jw_W_n 2 (i' := 12) (ls' := [some (.inr (.inr 103)), some (.inl fr), some (.inl to), some (.inl c), some (.inl 0), some (.inl k), r6, r7]) (st' := [.inl to, .inl k]) rfl ?_
  refine jw_W_ic rfl (by unfold jw_rg; omega) (by unfold jw_rg; omega) (fun hc1 => ?_) (fun hc1 => ?_)
  · have hc1 : k ≥ to := hc1
    refine jw_W_n 1 (i' := 137) (ls' := [some (.inr (.inr 103)), some (.inl fr), some (.inl to), some (.inl c), some (.inl 0), some (.inl k), r6, r7]) (st' := [.inr (.inr 103)]) rfl ?_
    refine jw_W_gf rfl rfl rfl ?_
    show jw_W (js_S n) _ md_209 138 [some (.inr (.inr 103)), some (.inl fr), some (.inl to), some (.inl c), some (.inl 0), some (.inl k), r6, r7] [.inr (.inr 119)] σ _
    refine jw_W_n 1 (i' := 139) (ls' := [some (.inr (.inr 103)), some (.inl fr), some (.inl to), some (.inl c), some (.inl 0), some (.inl k), r6, r7]) (st' := [.inl 0, .inr (.inr 119)]) rfl ?_
    refine jw_W_ia rfl rfl (by omega) (by omega) (by omega) ?_
    show jw_W (js_S n) _ md_209 140 [some (.inr (.inr 103)), some (.inl fr), some (.inl to), some (.inl c), some (.inl 0), some (.inl k), r6, r7] [.inl (σ 119 0)] σ _
    refine jw_W_ir rfl ?_
    exfalso; omega
  · have hc1 : ¬ (k ≥ to) := hc1
    refine jw_W_n 1 (i' := 14) (ls' := [some (.inr (.inr 103)), some (.inl fr), some (.inl to), some (.inl c), some (.inl 0), some (.inl k), r6, r7]) (st' := [.inr (.inr 103)]) rfl ?_
    refine jw_W_gf rfl rfl rfl ?_
    show jw_W (js_S n) _ md_209 15 [some (.inr (.inr 103)), some (.inl fr), some (.inl to), some (.inl c), some (.inl 0), some (.inl k), r6, r7] [.inr (.inr 114)] σ _
    refine jw_W_n 1 (i' := 16) (ls' := [some (.inr (.inr 103)), some (.inl fr), some (.inl to), some (.inl c), some (.inl 0), some (.inl k), r6, r7]) (st' := [.inl k, .inr (.inr 114)]) rfl ?_
    refine jw_W_ia rfl rfl (by omega) (by omega) (by omega) ?_
    show jw_W (js_S n) _ md_209 17 [some (.inr (.inr 103)), some (.inl fr), some (.inl to), some (.inl c), some (.inl 0), some (.inl k), r6, r7] [.inl (σ 114 k)] σ _
    refine jw_W_ldc (z := 1048576) rfl rfl ?_
    refine jw_W_idiv rfl (by unfold jw_rg; omega) (by omega) ?_
    rw [hw, (jl_word (o := o) (by omega) hv).1]
    refine jw_W_n 2 (i' := 21) (ls' := [some (.inr (.inr 103)), some (.inl fr), some (.inl to), some (.inl c), some (.inl 0), some (.inl k), some (.inl o), r7]) (st' := [.inr (.inr 103)]) rfl ?_
    refine jw_W_gf rfl rfl rfl ?_
    show jw_W (js_S n) _ md_209 22 [some (.inr (.inr 103)), some (.inl fr), some (.inl to), some (.inl c), some (.inl 0), some (.inl k), some (.inl o), r7] [.inr (.inr 114)] σ _
    refine jw_W_n 1 (i' := 23) (ls' := [some (.inr (.inr 103)), some (.inl fr), some (.inl to), some (.inl c), some (.inl 0), some (.inl k), some (.inl o), r7]) (st' := [.inl k, .inr (.inr 114)]) rfl ?_
    refine jw_W_ia rfl rfl (by omega) (by omega) (by omega) ?_
    show jw_W (js_S n) _ md_209 24 [some (.inr (.inr 103)), some (.inl fr), some (.inl to), some (.inl c), some (.inl 0), some (.inl k), some (.inl o), r7] [.inl (σ 114 k)] σ _
    refine jw_W_ldc (z := 1048576) rfl rfl ?_
    refine jw_W_irem rfl (by unfold jw_rg; omega) (by omega) ?_
    rw [hw, (jl_word (o := o) (by omega) hv).2]
    refine jw_W_n 6 (i' := 32) (ls' := [some (.inr (.inr 103)), some (.inl fr), some (.inl to), some (.inl c), some (.inl 0), some (.inl (k + 1)), some (.inl o), some (.inl v)]) (st' := [.inl o]) rfl ?_
    refine jw_W_if rfl (by unfold jw_rg; omega) (fun hc2 => ?_) (fun hc2 => ?_)
    · have hc2 : o = 0 := hc2
      exfalso; omega
    · have hc2 : ¬ (o = 0) := hc2
      refine jw_W_n 2 (i' := 35) (ls' := [some (.inr (.inr 103)), some (.inl fr), some (.inl to), some (.inl c), some (.inl 0), some (.inl (k + 1)), some (.inl o), some (.inl v)]) (st' := [.inl 1, .inl o]) rfl ?_
      refine jw_W_ic rfl (by unfold jw_rg; omega) (by unfold jw_rg; omega) (fun hc3 => ?_) (fun hc3 => ?_)
      · have hc3 : o ≠ 1 := hc3
        refine jw_W_n 2 (i' := 55) (ls' := [some (.inr (.inr 103)), some (.inl fr), some (.inl to), some (.inl c), some (.inl 0), some (.inl (k + 1)), some (.inl o), some (.inl v)]) (st' := [.inl 10, .inl o]) rfl ?_
        refine jw_W_ic rfl (by unfold jw_rg; omega) (by unfold jw_rg; omega) (fun hc4 => ?_) (fun hc4 => ?_)
        · have hc4 : o ≠ 10 := hc4
          refine jw_W_n 2 (i' := 73) (ls' := [some (.inr (.inr 103)), some (.inl fr), some (.inl to), some (.inl c), some (.inl 0), some (.inl (k + 1)), some (.inl o), some (.inl v)]) (st' := [.inl 11, .inl o]) rfl ?_
          refine jw_W_ic rfl (by unfold jw_rg; omega) (by unfold jw_rg; omega) (fun hc5 => ?_) (fun hc5 => ?_)
          · have hc5 : o = 11 := hc5
            exfalso; omega
          · have hc5 : ¬ (o = 11) := hc5
            refine jw_W_n 2 (i' := 76) (ls' := [some (.inr (.inr 103)), some (.inl fr), some (.inl to), some (.inl c), some (.inl 0), some (.inl (k + 1)), some (.inl o), some (.inl v)]) (st' := [.inl 12, .inl o]) rfl ?_
            refine jw_W_ic rfl (by unfold jw_rg; omega) (by unfold jw_rg; omega) (fun hc6 => ?_) (fun hc6 => ?_)
            · have hc6 : o ≠ 12 := hc6
              refine jw_W_n 6 (i' := 106) (ls' := [some (.inr (.inr 103)), some (.inl fr), some (.inl to), some (.inl (c - 1)), some (.inl 0), some (.inl (k + 1)), some (.inl o), some (.inl v)]) (st' := [.inl 5, .inl o]) rfl ?_
              refine jw_W_ic rfl (by unfold jw_rg; omega) (by unfold jw_rg; omega) (fun hc7 => ?_) (fun hc7 => ?_)
              · have hc7 : o = 5 := hc7
                refine jw_W_n 1 (i' := 111) (ls' := [some (.inr (.inr 103)), some (.inl fr), some (.inl to), some (.inl (c - 1)), some (.inl 0), some (.inl (k + 1)), some (.inl o), some (.inl v)]) (st' := [.inr (.inr 103)]) rfl ?_
                refine jw_W_gf rfl rfl rfl ?_
                show jw_W (js_S n) _ md_209 112 [some (.inr (.inr 103)), some (.inl fr), some (.inl to), some (.inl (c - 1)), some (.inl 0), some (.inl (k + 1)), some (.inl o), some (.inl v)] [.inr (.inr 119)] σ _
                refine jw_W_n 1 (i' := 113) (ls' := [some (.inr (.inr 103)), some (.inl fr), some (.inl to), some (.inl (c - 1)), some (.inl 0), some (.inl (k + 1)), some (.inl o), some (.inl v)]) (st' := [.inl (c - 1), .inr (.inr 119)]) rfl ?_
                refine jw_W_ia rfl rfl (by omega) (by omega) (by omega) ?_
                show jw_W (js_S n) _ md_209 114 [some (.inr (.inr 103)), some (.inl fr), some (.inl to), some (.inl (c - 1)), some (.inl 0), some (.inl (k + 1)), some (.inl o), some (.inl v)] [.inl (σ 119 (c - 1))] σ _
                refine jw_W_if rfl (by unfold jw_rg; omega) (fun hc8 => ?_) (fun hc8 => ?_)
                · have hc8 : (σ 119 (c - 1)) ≠ 0 := hc8
                  refine jw_W_n 1 (i' := 118) (ls' := [some (.inr (.inr 103)), some (.inl fr), some (.inl to), some (.inl (c - 1)), some (.inl 0), some (.inl (k + 1)), some (.inl o), some (.inl v)]) (st' := [.inr (.inr 103)]) rfl ?_
                  refine jw_W_gf rfl rfl rfl ?_
                  show jw_W (js_S n) _ md_209 119 [some (.inr (.inr 103)), some (.inl fr), some (.inl to), some (.inl (c - 1)), some (.inl 0), some (.inl (k + 1)), some (.inl o), some (.inl v)] [.inr (.inr 119)] σ _
                  refine jw_W_n 5 (i' := 124) (ls' := [some (.inr (.inr 103)), some (.inl fr), some (.inl to), some (.inl (c - 1)), some (.inl 0), some (.inl (k + 1)), some (.inl o), some (.inl v)]) (st' := [.inr (.inr 103), .inl o, .inl ((c - 1) - 1), .inr (.inr 119)]) rfl ?_
                  refine jw_W_gf rfl rfl rfl ?_
                  show jw_W (js_S n) _ md_209 125 [some (.inr (.inr 103)), some (.inl fr), some (.inl to), some (.inl (c - 1)), some (.inl 0), some (.inl (k + 1)), some (.inl o), some (.inl v)] [.inr (.inr 119), .inl o, .inl ((c - 1) - 1), .inr (.inr 119)] σ _
                  refine jw_W_n 3 (i' := 128) (ls' := [some (.inr (.inr 103)), some (.inl fr), some (.inl to), some (.inl (c - 1)), some (.inl 0), some (.inl (k + 1)), some (.inl o), some (.inl v)]) (st' := [.inl ((c - 1) - 1), .inr (.inr 119), .inl o, .inl ((c - 1) - 1), .inr (.inr 119)]) rfl ?_
                  refine jw_W_ia rfl rfl (by omega) (by omega) (by omega) ?_
                  show jw_W (js_S n) _ md_209 129 [some (.inr (.inr 103)), some (.inl fr), some (.inl to), some (.inl (c - 1)), some (.inl 0), some (.inl (k + 1)), some (.inl o), some (.inl v)] [.inl (σ 119 ((c - 1) - 1)), .inl o, .inl ((c - 1) - 1), .inr (.inr 119)] σ _
                  refine jw_W_n 1 (i' := 130) (ls' := [some (.inr (.inr 103)), some (.inl fr), some (.inl to), some (.inl (c - 1)), some (.inl 0), some (.inl (k + 1)), some (.inl o), some (.inl v)]) (st' := [.inr (.inr 103), .inl (σ 119 ((c - 1) - 1)), .inl o, .inl ((c - 1) - 1), .inr (.inr 119)]) rfl ?_
                  refine jw_W_gf rfl rfl rfl ?_
                  show jw_W (js_S n) _ md_209 131 [some (.inr (.inr 103)), some (.inl fr), some (.inl to), some (.inl (c - 1)), some (.inl 0), some (.inl (k + 1)), some (.inl o), some (.inl v)] [.inr (.inr 119), .inl (σ 119 ((c - 1) - 1)), .inl o, .inl ((c - 1) - 1), .inr (.inr 119)] σ _
                  refine jw_W_n 1 (i' := 132) (ls' := [some (.inr (.inr 103)), some (.inl fr), some (.inl to), some (.inl (c - 1)), some (.inl 0), some (.inl (k + 1)), some (.inl o), some (.inl v)]) (st' := [.inl (c - 1), .inr (.inr 119), .inl (σ 119 ((c - 1) - 1)), .inl o, .inl ((c - 1) - 1), .inr (.inr 119)]) rfl ?_
                  refine jw_W_ia rfl rfl (by omega) (by omega) (by omega) ?_
                  show jw_W (js_S n) _ md_209 133 [some (.inr (.inr 103)), some (.inl fr), some (.inl to), some (.inl (c - 1)), some (.inl 0), some (.inl (k + 1)), some (.inl o), some (.inl v)] [.inl (σ 119 (c - 1)), .inl (σ 119 ((c - 1) - 1)), .inl o, .inl ((c - 1) - 1), .inr (.inr 119)] σ _
                  refine jw_W_call (as := [.inl o, .inl (σ 119 ((c - 1) - 1)), .inl (σ 119 (c - 1))]) (rest := [.inl ((c - 1) - 1), .inr (.inr 119)]) rfl rfl rfl rfl (Nat.le_of_ble_eq_true rfl) (.inl rfl) (jl_reckon ho hx hy (by omega)) (by omega) ?_ rfl
                  rintro r1 σz ⟨rfl, hs⟩
                  rw [hs]
                  show jw_W (js_S n) _ md_209 134 [some (.inr (.inr 103)), some (.inl fr), some (.inl to), some (.inl (c - 1)), some (.inl 0), some (.inl (k + 1)), some (.inl o), some (.inl v)] [.inl (jl_rk o (σ 119 (c - 1 - 1)) (σ 119 (c - 1))), .inl ((c - 1) - 1), .inr (.inr 119)] σ _
                  refine jw_W_is rfl (by omega) rfl (by omega) (by omega) (by omega) ?_
                  refine jw_W_n 1 (i' := 10) (ls' := [some (.inr (.inr 103)), some (.inl fr), some (.inl to), some (.inl (c - 1)), some (.inl 0), some (.inl (k + 1)), some (.inl o), some (.inl v)]) (st' := []) rfl ?_
                  exact hK (by omega)
                · have hc8 : (σ 119 (c - 1)) = 0 := Classical.not_not.mp hc8
                  refine jw_W_n 1 (i' := 116) (ls' := [some (.inr (.inr 103)), some (.inl fr), some (.inl to), some (.inl (c - 1)), some (.inl 0), some (.inl (k + 1)), some (.inl o), some (.inl v)]) (st' := [.inl 0]) rfl ?_
                  refine jw_W_ir rfl ?_
                  exact hK0 (by omega) (by omega)
              · have hc7 : ¬ (o = 5) := hc7
                refine jw_W_n 2 (i' := 109) (ls' := [some (.inr (.inr 103)), some (.inl fr), some (.inl to), some (.inl (c - 1)), some (.inl 0), some (.inl (k + 1)), some (.inl o), some (.inl v)]) (st' := [.inl 6, .inl o]) rfl ?_
                refine jw_W_ic rfl (by unfold jw_rg; omega) (by unfold jw_rg; omega) (fun hc9 => ?_) (fun hc9 => ?_)
                · have hc9 : o ≠ 6 := hc9
                  refine jw_W_n 1 (i' := 118) (ls' := [some (.inr (.inr 103)), some (.inl fr), some (.inl to), some (.inl (c - 1)), some (.inl 0), some (.inl (k + 1)), some (.inl o), some (.inl v)]) (st' := [.inr (.inr 103)]) rfl ?_
                  refine jw_W_gf rfl rfl rfl ?_
                  show jw_W (js_S n) _ md_209 119 [some (.inr (.inr 103)), some (.inl fr), some (.inl to), some (.inl (c - 1)), some (.inl 0), some (.inl (k + 1)), some (.inl o), some (.inl v)] [.inr (.inr 119)] σ _
                  refine jw_W_n 5 (i' := 124) (ls' := [some (.inr (.inr 103)), some (.inl fr), some (.inl to), some (.inl (c - 1)), some (.inl 0), some (.inl (k + 1)), some (.inl o), some (.inl v)]) (st' := [.inr (.inr 103), .inl o, .inl ((c - 1) - 1), .inr (.inr 119)]) rfl ?_
                  refine jw_W_gf rfl rfl rfl ?_
                  show jw_W (js_S n) _ md_209 125 [some (.inr (.inr 103)), some (.inl fr), some (.inl to), some (.inl (c - 1)), some (.inl 0), some (.inl (k + 1)), some (.inl o), some (.inl v)] [.inr (.inr 119), .inl o, .inl ((c - 1) - 1), .inr (.inr 119)] σ _
                  refine jw_W_n 3 (i' := 128) (ls' := [some (.inr (.inr 103)), some (.inl fr), some (.inl to), some (.inl (c - 1)), some (.inl 0), some (.inl (k + 1)), some (.inl o), some (.inl v)]) (st' := [.inl ((c - 1) - 1), .inr (.inr 119), .inl o, .inl ((c - 1) - 1), .inr (.inr 119)]) rfl ?_
                  refine jw_W_ia rfl rfl (by omega) (by omega) (by omega) ?_
                  show jw_W (js_S n) _ md_209 129 [some (.inr (.inr 103)), some (.inl fr), some (.inl to), some (.inl (c - 1)), some (.inl 0), some (.inl (k + 1)), some (.inl o), some (.inl v)] [.inl (σ 119 ((c - 1) - 1)), .inl o, .inl ((c - 1) - 1), .inr (.inr 119)] σ _
                  refine jw_W_n 1 (i' := 130) (ls' := [some (.inr (.inr 103)), some (.inl fr), some (.inl to), some (.inl (c - 1)), some (.inl 0), some (.inl (k + 1)), some (.inl o), some (.inl v)]) (st' := [.inr (.inr 103), .inl (σ 119 ((c - 1) - 1)), .inl o, .inl ((c - 1) - 1), .inr (.inr 119)]) rfl ?_
                  refine jw_W_gf rfl rfl rfl ?_
                  show jw_W (js_S n) _ md_209 131 [some (.inr (.inr 103)), some (.inl fr), some (.inl to), some (.inl (c - 1)), some (.inl 0), some (.inl (k + 1)), some (.inl o), some (.inl v)] [.inr (.inr 119), .inl (σ 119 ((c - 1) - 1)), .inl o, .inl ((c - 1) - 1), .inr (.inr 119)] σ _
                  refine jw_W_n 1 (i' := 132) (ls' := [some (.inr (.inr 103)), some (.inl fr), some (.inl to), some (.inl (c - 1)), some (.inl 0), some (.inl (k + 1)), some (.inl o), some (.inl v)]) (st' := [.inl (c - 1), .inr (.inr 119), .inl (σ 119 ((c - 1) - 1)), .inl o, .inl ((c - 1) - 1), .inr (.inr 119)]) rfl ?_
                  refine jw_W_ia rfl rfl (by omega) (by omega) (by omega) ?_
                  show jw_W (js_S n) _ md_209 133 [some (.inr (.inr 103)), some (.inl fr), some (.inl to), some (.inl (c - 1)), some (.inl 0), some (.inl (k + 1)), some (.inl o), some (.inl v)] [.inl (σ 119 (c - 1)), .inl (σ 119 ((c - 1) - 1)), .inl o, .inl ((c - 1) - 1), .inr (.inr 119)] σ _
                  refine jw_W_call (as := [.inl o, .inl (σ 119 ((c - 1) - 1)), .inl (σ 119 (c - 1))]) (rest := [.inl ((c - 1) - 1), .inr (.inr 119)]) rfl rfl rfl rfl (Nat.le_of_ble_eq_true rfl) (.inl rfl) (jl_reckon ho hx hy (by omega)) (by omega) ?_ rfl
                  rintro r1 σz ⟨rfl, hs⟩
                  rw [hs]
                  show jw_W (js_S n) _ md_209 134 [some (.inr (.inr 103)), some (.inl fr), some (.inl to), some (.inl (c - 1)), some (.inl 0), some (.inl (k + 1)), some (.inl o), some (.inl v)] [.inl (jl_rk o (σ 119 (c - 1 - 1)) (σ 119 (c - 1))), .inl ((c - 1) - 1), .inr (.inr 119)] σ _
                  refine jw_W_is rfl (by omega) rfl (by omega) (by omega) (by omega) ?_
                  refine jw_W_n 1 (i' := 10) (ls' := [some (.inr (.inr 103)), some (.inl fr), some (.inl to), some (.inl (c - 1)), some (.inl 0), some (.inl (k + 1)), some (.inl o), some (.inl v)]) (st' := []) rfl ?_
                  exact hK (by omega)
                · have hc9 : o = 6 := Classical.not_not.mp hc9
                  refine jw_W_n 1 (i' := 111) (ls' := [some (.inr (.inr 103)), some (.inl fr), some (.inl to), some (.inl (c - 1)), some (.inl 0), some (.inl (k + 1)), some (.inl o), some (.inl v)]) (st' := [.inr (.inr 103)]) rfl ?_
                  refine jw_W_gf rfl rfl rfl ?_
                  show jw_W (js_S n) _ md_209 112 [some (.inr (.inr 103)), some (.inl fr), some (.inl to), some (.inl (c - 1)), some (.inl 0), some (.inl (k + 1)), some (.inl o), some (.inl v)] [.inr (.inr 119)] σ _
                  refine jw_W_n 1 (i' := 113) (ls' := [some (.inr (.inr 103)), some (.inl fr), some (.inl to), some (.inl (c - 1)), some (.inl 0), some (.inl (k + 1)), some (.inl o), some (.inl v)]) (st' := [.inl (c - 1), .inr (.inr 119)]) rfl ?_
                  refine jw_W_ia rfl rfl (by omega) (by omega) (by omega) ?_
                  show jw_W (js_S n) _ md_209 114 [some (.inr (.inr 103)), some (.inl fr), some (.inl to), some (.inl (c - 1)), some (.inl 0), some (.inl (k + 1)), some (.inl o), some (.inl v)] [.inl (σ 119 (c - 1))] σ _
                  refine jw_W_if rfl (by unfold jw_rg; omega) (fun hc10 => ?_) (fun hc10 => ?_)
                  · have hc10 : (σ 119 (c - 1)) ≠ 0 := hc10
                    refine jw_W_n 1 (i' := 118) (ls' := [some (.inr (.inr 103)), some (.inl fr), some (.inl to), some (.inl (c - 1)), some (.inl 0), some (.inl (k + 1)), some (.inl o), some (.inl v)]) (st' := [.inr (.inr 103)]) rfl ?_
                    refine jw_W_gf rfl rfl rfl ?_
                    show jw_W (js_S n) _ md_209 119 [some (.inr (.inr 103)), some (.inl fr), some (.inl to), some (.inl (c - 1)), some (.inl 0), some (.inl (k + 1)), some (.inl o), some (.inl v)] [.inr (.inr 119)] σ _
                    refine jw_W_n 5 (i' := 124) (ls' := [some (.inr (.inr 103)), some (.inl fr), some (.inl to), some (.inl (c - 1)), some (.inl 0), some (.inl (k + 1)), some (.inl o), some (.inl v)]) (st' := [.inr (.inr 103), .inl o, .inl ((c - 1) - 1), .inr (.inr 119)]) rfl ?_
                    refine jw_W_gf rfl rfl rfl ?_
                    show jw_W (js_S n) _ md_209 125 [some (.inr (.inr 103)), some (.inl fr), some (.inl to), some (.inl (c - 1)), some (.inl 0), some (.inl (k + 1)), some (.inl o), some (.inl v)] [.inr (.inr 119), .inl o, .inl ((c - 1) - 1), .inr (.inr 119)] σ _
                    refine jw_W_n 3 (i' := 128) (ls' := [some (.inr (.inr 103)), some (.inl fr), some (.inl to), some (.inl (c - 1)), some (.inl 0), some (.inl (k + 1)), some (.inl o), some (.inl v)]) (st' := [.inl ((c - 1) - 1), .inr (.inr 119), .inl o, .inl ((c - 1) - 1), .inr (.inr 119)]) rfl ?_
                    refine jw_W_ia rfl rfl (by omega) (by omega) (by omega) ?_
                    show jw_W (js_S n) _ md_209 129 [some (.inr (.inr 103)), some (.inl fr), some (.inl to), some (.inl (c - 1)), some (.inl 0), some (.inl (k + 1)), some (.inl o), some (.inl v)] [.inl (σ 119 ((c - 1) - 1)), .inl o, .inl ((c - 1) - 1), .inr (.inr 119)] σ _
                    refine jw_W_n 1 (i' := 130) (ls' := [some (.inr (.inr 103)), some (.inl fr), some (.inl to), some (.inl (c - 1)), some (.inl 0), some (.inl (k + 1)), some (.inl o), some (.inl v)]) (st' := [.inr (.inr 103), .inl (σ 119 ((c - 1) - 1)), .inl o, .inl ((c - 1) - 1), .inr (.inr 119)]) rfl ?_
                    refine jw_W_gf rfl rfl rfl ?_
                    show jw_W (js_S n) _ md_209 131 [some (.inr (.inr 103)), some (.inl fr), some (.inl to), some (.inl (c - 1)), some (.inl 0), some (.inl (k + 1)), some (.inl o), some (.inl v)] [.inr (.inr 119), .inl (σ 119 ((c - 1) - 1)), .inl o, .inl ((c - 1) - 1), .inr (.inr 119)] σ _
                    refine jw_W_n 1 (i' := 132) (ls' := [some (.inr (.inr 103)), some (.inl fr), some (.inl to), some (.inl (c - 1)), some (.inl 0), some (.inl (k + 1)), some (.inl o), some (.inl v)]) (st' := [.inl (c - 1), .inr (.inr 119), .inl (σ 119 ((c - 1) - 1)), .inl o, .inl ((c - 1) - 1), .inr (.inr 119)]) rfl ?_
                    refine jw_W_ia rfl rfl (by omega) (by omega) (by omega) ?_
                    show jw_W (js_S n) _ md_209 133 [some (.inr (.inr 103)), some (.inl fr), some (.inl to), some (.inl (c - 1)), some (.inl 0), some (.inl (k + 1)), some (.inl o), some (.inl v)] [.inl (σ 119 (c - 1)), .inl (σ 119 ((c - 1) - 1)), .inl o, .inl ((c - 1) - 1), .inr (.inr 119)] σ _
                    refine jw_W_call (as := [.inl o, .inl (σ 119 ((c - 1) - 1)), .inl (σ 119 (c - 1))]) (rest := [.inl ((c - 1) - 1), .inr (.inr 119)]) rfl rfl rfl rfl (Nat.le_of_ble_eq_true rfl) (.inl rfl) (jl_reckon ho hx hy (by omega)) (by omega) ?_ rfl
                    rintro r1 σz ⟨rfl, hs⟩
                    rw [hs]
                    show jw_W (js_S n) _ md_209 134 [some (.inr (.inr 103)), some (.inl fr), some (.inl to), some (.inl (c - 1)), some (.inl 0), some (.inl (k + 1)), some (.inl o), some (.inl v)] [.inl (jl_rk o (σ 119 (c - 1 - 1)) (σ 119 (c - 1))), .inl ((c - 1) - 1), .inr (.inr 119)] σ _
                    refine jw_W_is rfl (by omega) rfl (by omega) (by omega) (by omega) ?_
                    refine jw_W_n 1 (i' := 10) (ls' := [some (.inr (.inr 103)), some (.inl fr), some (.inl to), some (.inl (c - 1)), some (.inl 0), some (.inl (k + 1)), some (.inl o), some (.inl v)]) (st' := []) rfl ?_
                    exact hK (by omega)
                  · have hc10 : (σ 119 (c - 1)) = 0 := Classical.not_not.mp hc10
                    refine jw_W_n 1 (i' := 116) (ls' := [some (.inr (.inr 103)), some (.inl fr), some (.inl to), some (.inl (c - 1)), some (.inl 0), some (.inl (k + 1)), some (.inl o), some (.inl v)]) (st' := [.inl 0]) rfl ?_
                    refine jw_W_ir rfl ?_
                    exact hK0 (by omega) (by omega)
            · have hc6 : o = 12 := Classical.not_not.mp hc6
              exfalso; omega
        · have hc4 : o = 10 := Classical.not_not.mp hc4
          exfalso; omega
      · have hc3 : o = 1 := Classical.not_not.mp hc3
        exfalso; omega

/-! ===== the law's reader, the reference: endsPiece, lands, jumps, opens, numbers, hasOpenSum ===== -/
theorem jo_ends_loop {n : Nat} {σ : jw_H} {b : Int → Int} {d m i : Int} : ∀ (W : jo_C) {c : jo_C} {o : Int} {τ : jw_H}, jo_rp b d m i o W c τ → jo_f σ τ → jw_W (js_S n) 2 md_200 0 [some (.inr (.inr 103))] [] τ (fun r σ' => r = none ∧ jo_f σ σ' ∧ jo_rp b d m i (jo_en W c o).2.2 (jo_en W c o).1 (jo_en W c o).2.1 σ')
  | [], c, o, τ, hR, hf => by
    have hR0 := hR
    obtain ⟨ht, em, h240, h8, hi, h12, ho, h13, h14, hb, hc, hw⟩ := hR
    have w9 := jo_waitTop (n := n) hR0
    have w9 : jw_T (js_S n) 1 193 [.inr (.inr 103)] τ (fun r σ' => r = some (.inl (-1)) ∧ σ' = τ) := w9
    refine jw_W_n 1 (i' := 1) (ls' := [some (.inr (.inr 103))]) (st' := [.inr (.inr 103)]) rfl ?_
    refine jw_W_call (as := [.inr (.inr 103)]) (rest := []) rfl rfl rfl rfl (Nat.le_of_ble_eq_true rfl) (.inr rfl) (w9) (by omega) ?_ rfl
    rintro r1 σz ⟨rfl, hs⟩
    rw [hs]
    show jw_W (js_S n) _ md_200 2 [some (.inr (.inr 103))] [.inl ((-1))] τ _
    refine jw_W_n 1 (i' := 3) (ls' := [some (.inr (.inr 103))]) (st' := [.inl 10, .inl ((-1))]) rfl ?_
    refine jw_W_ic rfl (by unfold jw_rg; omega) (by unfold jw_rg; omega) (fun hc1 => ?_) (fun hc1 => ?_)
    · clear hc1
      refine jw_W_re rfl ?_
      exact ⟨rfl, hf, hR0⟩
    · exact absurd hc1 (show ¬ ¬ ((((-1 : Int))) ≠ 10) by omega)
  | q :: W, c, o, τ, hR, hf => by
    have hR0 := hR
    obtain ⟨ht, em, h240, h8, hi, h12, ho, h13, h14, hb, hc, hw⟩ := hR
    have hqr := hw.1.2.1
    have hwt : q.1 ≤ 10 → jo_wt (q :: W) = 1 + jo_wt W := fun h => by
      show (if q.1 = 11 ∨ q.1 = 12 then 0 else 1) + jo_wt W = _
      rw [if_neg (by omega)]
    have w9 := jo_waitTop (n := n) hR0
    have w9 : jw_T (js_S n) 1 193 [.inr (.inr 103)] τ (fun r σ' => r = some (.inl (q.1)) ∧ σ' = τ) := w9
    have stop : ¬ (q.1 = 10) → (none : Option jw_V) = none ∧ jo_f σ τ ∧ jo_rp b d m i (jo_en (q :: W) c o).2.2 (jo_en (q :: W) c o).1 (jo_en (q :: W) c o).2.1 τ := by
      intro hn
      rw [jo_en_n hn]
      exact ⟨rfl, hf, hR0⟩
    have go : q.1 = 10 → ∀ {υ : jw_H}, υ = (jw_up (jw_up (jw_up (jw_up τ 108 (τ 103 13) ((1048576 * 10) + 0)) 103 13 (τ 103 13 + 1)) 103 14 (τ 103 14 - 1)) 103 12 (τ 103 12 - 1)) → jw_W (js_S n) 2 md_200 0 [some (.inr (.inr 103))] [] υ (fun r σ' => r = none ∧ jo_f σ σ' ∧ jo_rp b d m i (jo_en (q :: W) c o).2.2 (jo_en (q :: W) c o).1 (jo_en (q :: W) c o).2.1 σ') := by
      intro hy υ hυ
      rw [jo_en_y hy]
      have hfu : jo_f τ υ := by rw [hυ]; exact jo_f_up (jo_f_up (jo_f_up (jo_f_up (jo_f_rf τ) (by omega)) (by omega)) (by omega)) (by omega)
      have hop : jo_op (q :: W) = 1 + jo_op W := by
        show (if q.1 = 10 ∨ q.1 = 13 ∨ q.1 = 14 then 1 else 0) + jo_op W = _
        rw [if_pos (by omega)]
      have hp := jo_rp_pop (o' := o - 1) hR0 (by omega) hfu (by rw [hυ]; rfl) (by rw [hυ, jw_up_eq, h12]) (by omega) (by rw [hυ]; rfl) (by rw [hυ]; rfl) (by rw [hυ, jw_up_out _ _ _ (by omega), jw_up_out _ _ _ (by omega), jw_up_out _ _ _ (by omega), jw_up_eq, hy]; omega) (fun j hj => by rw [hυ, jw_up_out _ _ _ (by omega), jw_up_out _ _ _ (by omega), jw_up_out _ _ _ (by omega), jw_up_ne _ (by omega)]) (by rw [hυ]; rfl)
      rw [hy] at hp
      exact jo_ends_loop W hp (jo_f_tr hf hfu)
    have hcl : q.1 ≤ 10 → τ 103 13 < 260 := fun h => by have := hwt h; omega
    clear hwt
    refine jw_W_n 1 (i' := 1) (ls' := [some (.inr (.inr 103))]) (st' := [.inr (.inr 103)]) rfl ?_
    refine jw_W_call (as := [.inr (.inr 103)]) (rest := []) rfl rfl rfl rfl (Nat.le_of_ble_eq_true rfl) (.inr rfl) (w9) (by omega) ?_ rfl
    rintro r1 σz ⟨rfl, hs⟩
    rw [hs]
    show jw_W (js_S n) _ md_200 2 [some (.inr (.inr 103))] [.inl q.1] τ _
    refine jw_W_n 1 (i' := 3) (ls' := [some (.inr (.inr 103))]) (st' := [.inl 10, .inl q.1]) rfl ?_
    refine jw_W_ic rfl (by unfold jw_rg; omega) (by unfold jw_rg; omega) (fun hc1 => ?_) (fun hc1 => ?_)
    · have hc1 : q.1 ≠ 10 := hc1
      refine jw_W_re rfl ?_
      exact stop (by omega)
    · have hc1 : q.1 = 10 := Classical.not_not.mp hc1
      refine jw_W_n 3 (i' := 7) (ls' := [some (.inr (.inr 103))]) (st' := [.inl 0, .inl 10, .inr (.inr 103)]) rfl ?_
      refine jw_W_call (as := [.inr (.inr 103), .inl 10, .inl 0]) (rest := []) rfl rfl rfl rfl (Nat.le_of_ble_eq_true rfl) (.inr rfl) (jo_notes (by omega) (by omega) ⟨by omega, hcl (by omega)⟩) (by omega) ?_ rfl
      rintro r1 σz ⟨rfl, hs⟩
      rw [hs]
      show jw_W (js_S n) _ md_200 8 [some (.inr (.inr 103))] [] ((jw_up (jw_up τ 108 (τ 103 13) ((1048576 * 10) + 0)) 103 13 (τ 103 13 + 1))) _
      refine jw_W_n 2 (i' := 10) (ls' := [some (.inr (.inr 103))]) (st' := [.inr (.inr 103), .inr (.inr 103)]) rfl ?_
      refine jw_W_gf rfl rfl rfl ?_
      show jw_W (js_S n) _ md_200 11 [some (.inr (.inr 103))] [.inl (τ 103 14), .inr (.inr 103)] ((jw_up (jw_up τ 108 (τ 103 13) ((1048576 * 10) + 0)) 103 13 (τ 103 13 + 1))) _
      refine jw_W_n 2 (i' := 13) (ls' := [some (.inr (.inr 103))]) (st' := [.inl (τ 103 14 - 1), .inr (.inr 103)]) rfl ?_
      refine jw_W_pf (a := τ 103 14 - 1) rfl (by omega) rfl rfl rfl rfl rfl ?_
      refine jw_W_n 2 (i' := 16) (ls' := [some (.inr (.inr 103))]) (st' := [.inr (.inr 103), .inr (.inr 103)]) rfl ?_
      refine jw_W_gf rfl rfl rfl ?_
      show jw_W (js_S n) _ md_200 17 [some (.inr (.inr 103))] [.inl (τ 103 12), .inr (.inr 103)] ((jw_up (jw_up (jw_up τ 108 (τ 103 13) ((1048576 * 10) + 0)) 103 13 (τ 103 13 + 1)) 103 14 (τ 103 14 - 1))) _
      refine jw_W_n 2 (i' := 19) (ls' := [some (.inr (.inr 103))]) (st' := [.inl (τ 103 12 - 1), .inr (.inr 103)]) rfl ?_
      refine jw_W_pf (a := τ 103 12 - 1) rfl (by omega) rfl rfl rfl rfl rfl ?_
      refine jw_W_n 1 (i' := 0) (ls' := [some (.inr (.inr 103))]) (st' := []) rfl ?_
      exact go (by omega) rfl
theorem jo_endsPiece {n : Nat} {σ : jw_H} {b : Int → Int} {d m i o : Int} {W c : jo_C} (hR : jo_rp b d m i o W c σ) : jw_T (js_S n) 3 200 [.inr (.inr 103)] σ (fun r σ' => r = none ∧ jo_f σ σ' ∧ jo_rp b d m i (jo_en W c o).2.2 (jo_en W c o).1 (jo_en W c o).2.1 σ') := by
  refine jw_T_of (D := 2) (M := mm_200) rfl (Nat.le_of_ble_eq_true rfl) (ls0 := [some (.inr (.inr 103))]) rfl ?_ (by rintro _ _ ⟨rfl, -⟩; rfl)
  exact jo_ends_loop W hR (jo_f_rf σ)
theorem jo_closesSums {n : Nat} {σ : jw_H} {b : Int → Int} {d m i o : Int} {W c : jo_C} (hR : jo_rp b d m i o W c σ) {a : Int} {all : Bool} (ha : (a = 1 ∧ all = true) ∨ (a = 0 ∧ all = false)) : jw_T (js_S n) 3 196 [.inr (.inr 103), .inl a] σ (fun r σ' => r = none ∧ jo_f σ σ' ∧ jo_rp b d m i o (jo_cl all W c).1 (jo_cl all W c).2 σ') := by
  refine jw_T_of (D := 2) (M := mm_196) rfl (Nat.le_of_ble_eq_true rfl) (ls0 := [some (.inr (.inr 103)), some (.inl a)]) rfl ?_ (by rintro _ _ ⟨rfl, -⟩; rfl)
  exact jo_closes_loop ha W hR (jo_f_rf σ)
def jo_hl (τ : jw_H) (q : Int × Int) (c : jo_C) : Prop := q.1 = 11 ∨ q.1 = 12 → ∃ z : Int × Int, c[q.2.toNat]? = some z ∧ (z.1 = 11 ∨ z.1 = 12) ∧ jw_rem (τ 109 (τ 103 14 - 1)) 1048576 = q.2 ∧ jw_div (τ 108 q.2) 1048576 = z.1 ∧ (0 ≤ q.2 ∧ q.2 < (c.length : Int))
theorem jo_lands_loop {n : Nat} {σ : jw_H} {b : Int → Int} {d m i o a : Int} {all : Bool} (ha : (a = 1 ∧ all = true) ∨ (a = 0 ∧ all = false)) : ∀ (W : jo_C) {c : jo_C} {τ : jw_H} {x2 : Option jw_V}, jo_rp b d m i o W c τ → jo_f σ τ → jw_W (js_S n) 2 md_201 0 [some (.inr (.inr 103)), some (.inl a), x2] [] τ (fun r σ' => r = none ∧ jo_f σ σ' ∧ jo_rp b d m i o (jo_ln all W c).1 (jo_ln all W c).2 σ')
  | [], c, τ, x2, hR, hf => by
    have hR0 := hR
    obtain ⟨ht, em, h240, h8, hi, h12, ho, h13, h14, hb, hc, hw⟩ := hR
    have w9 := jo_waitTop (n := n) hR0
    have w9 : jw_T (js_S n) 1 193 [.inr (.inr 103)] τ (fun r σ' => r = some (.inl (-1)) ∧ σ' = τ) := w9
    have a01 : 0 ≤ a ∧ a ≤ 1 := by omega
    refine jw_W_n 1 (i' := 1) (ls' := [some (.inr (.inr 103)), some (.inl a), x2]) (st' := [.inr (.inr 103)]) rfl ?_
    refine jw_W_call (as := [.inr (.inr 103)]) (rest := []) rfl rfl rfl rfl (Nat.le_of_ble_eq_true rfl) (.inr rfl) (w9) (by omega) ?_ rfl
    rintro r1 σz ⟨rfl, hs⟩
    rw [hs]
    show jw_W (js_S n) _ md_201 2 [some (.inr (.inr 103)), some (.inl a), x2] [.inl ((-1))] τ _
    refine jw_W_n 1 (i' := 3) (ls' := [some (.inr (.inr 103)), some (.inl a), x2]) (st' := [.inl 11, .inl ((-1))]) rfl ?_
    refine jw_W_ic rfl (by unfold jw_rg; omega) (by unfold jw_rg; omega) (fun hc1 => ?_) (fun hc1 => ?_)
    · exact absurd hc1 (show ¬ ((((-1 : Int))) = 11) by omega)
    · clear hc1
      refine jw_W_n 1 (i' := 5) (ls' := [some (.inr (.inr 103)), some (.inl a), x2]) (st' := [.inl a]) rfl ?_
      refine jw_W_if rfl (by unfold jw_rg; omega) (fun hc2 => ?_) (fun hc2 => ?_)
      · have hc2 : a = 0 := hc2
        refine jw_W_re rfl ?_
        exact ⟨rfl, hf, hR0⟩
      · have hc2 : ¬ (a = 0) := hc2
        refine jw_W_n 1 (i' := 7) (ls' := [some (.inr (.inr 103)), some (.inl a), x2]) (st' := [.inr (.inr 103)]) rfl ?_
        refine jw_W_call (as := [.inr (.inr 103)]) (rest := []) rfl rfl rfl rfl (Nat.le_of_ble_eq_true rfl) (.inr rfl) (w9) (by omega) ?_ rfl
        rintro r1 σz ⟨rfl, hs⟩
        rw [hs]
        show jw_W (js_S n) _ md_201 8 [some (.inr (.inr 103)), some (.inl a), x2] [.inl ((-1))] τ _
        refine jw_W_n 1 (i' := 9) (ls' := [some (.inr (.inr 103)), some (.inl a), x2]) (st' := [.inl 12, .inl ((-1))]) rfl ?_
        refine jw_W_ic rfl (by unfold jw_rg; omega) (by unfold jw_rg; omega) (fun hc3 => ?_) (fun hc3 => ?_)
        · clear hc3
          refine jw_W_re rfl ?_
          exact ⟨rfl, hf, hR0⟩
        · exact absurd hc3 (show ¬ ¬ ((((-1 : Int))) ≠ 12) by omega)
  | q :: W, c, τ, x2, hR, hf => by
    have hR0 := hR
    obtain ⟨ht, em, h240, h8, hi, h12, ho, h13, h14, hb, hc, hw⟩ := hR
    have hqr := hw.1.2.1
    have h14' := h14
    rw [List.length_cons] at h14'
    have hland : jo_hl τ q c := by
      intro hq
      obtain ⟨z, hz, hz1⟩ := hw.1.2.2.2 hq
      have hr := hw.1.2.2.1
      have hlt := (List.getElem?_eq_some_iff.mp hz).1
      obtain ⟨y1, y2, y3⟩ := hc _ z hz
      rw [show ((q.2.toNat : Nat) : Int) = q.2 by omega] at y1
      refine ⟨z, hz, hz1, ?_, ?_, by omega⟩
      · rw [show τ 103 14 - 1 = (W.length : Int) by omega, hw.1.1]
        exact (jl_word (by omega) hr).2
      · rw [y1]
        unfold jo_wd
        rw [if_pos hz1]
        split
        · exact (jl_word (by omega) (by omega)).1
        · exact (jl_word (by omega) (by omega)).1
    have w9 := jo_waitTop (n := n) hR0
    have w9 : jw_T (js_S n) 1 193 [.inr (.inr 103)] τ (fun r σ' => r = some (.inl (q.1)) ∧ σ' = τ) := w9
    have a01 : 0 ≤ a ∧ a ≤ 1 := by omega
    have stop : ¬ (q.1 = 11 ∨ (a ≠ 0 ∧ q.1 = 12)) → (none : Option jw_V) = none ∧ jo_f σ τ ∧ jo_rp b d m i o (jo_ln all (q :: W) c).1 (jo_ln all (q :: W) c).2 τ := by
      intro hn
      rw [jo_ln_n (fun w => hn (w.elim .inl (fun w => .inr ⟨fun a0 => by rcases ha with ⟨a1, -⟩ | ⟨-, a1⟩; omega; rw [a1] at w; exact Bool.noConfusion w.1, w.2⟩)))]
      exact ⟨rfl, hf, hR0⟩
    have go : (q.1 = 11 ∨ (a ≠ 0 ∧ q.1 = 12)) → ∀ {z : Int × Int} {x2 : Option jw_V}, c[q.2.toNat]? = some z → (z.1 = 11 ∨ z.1 = 12) → (0 ≤ q.2 ∧ q.2 < (c.length : Int)) → ∀ {υ : jw_H}, υ = (jw_up (jw_up τ 108 q.2 (1048576 * z.1 + τ 103 13)) 103 14 (τ 103 14 - 1)) → jw_W (js_S n) 2 md_201 0 [some (.inr (.inr 103)), some (.inl a), x2] [] υ (fun r σ' => r = none ∧ jo_f σ σ' ∧ jo_rp b d m i o (jo_ln all (q :: W) c).1 (jo_ln all (q :: W) c).2 σ') := by
      intro hy z x2 hz hz1 hza υ hυ
      rw [jo_ln_y (hy.elim .inl (fun w => .inr ⟨by rcases ha with ⟨-, a1⟩ | ⟨a1, -⟩; exact a1; exact absurd a1 w.1, w.2⟩))]
      have hfu : jo_f τ υ := by rw [hυ]; exact jo_f_up (jo_f_up (jo_f_rf τ) (by omega)) (by omega)
      have hq11 : q.1 = 11 ∨ q.1 = 12 := by omega
      have hop : jo_op (q :: W) = jo_op W := by
        show (if q.1 = 10 ∨ q.1 = 13 ∨ q.1 = 14 then 1 else 0) + jo_op W = _
        rw [if_neg (by omega), Nat.zero_add]
      have hwt : jo_wt (q :: W) = jo_wt W := by
        show (if q.1 = 11 ∨ q.1 = 12 then 0 else 1) + jo_wt W = _
        rw [if_pos hq11, Nat.zero_add]
      rw [hop] at ho
      rw [hwt, List.length_cons] at hb
      refine jo_lands_loop ha W (jo_rp_mk hR0 hfu (by rw [hυ]; exact h8) hi (by rw [hυ]; exact h12) ho (by rw [jo_put_len, hυ]; exact h13) (by rw [hυ, jw_up_eq]; omega) (by rw [jo_put_len]; omega) (jo_cr_put hc hz hz1 (by omega) ?_ (fun j hj => ?_)) (jo_ws_put hz hz1 W (jo_ws_fr W hw.2 (fun j _ => by rw [hυ]; rfl)))) (jo_f_tr hf hfu)
      · rw [hυ, jw_up_out _ _ _ (by omega), show ((q.2.toNat : Nat) : Int) = q.2 by omega, jw_up_eq, h13]
      · rw [hυ, jw_up_out _ _ _ (by omega), jw_up_ne _ (by omega)]
    clear ha
    refine jw_W_n 1 (i' := 1) (ls' := [some (.inr (.inr 103)), some (.inl a), x2]) (st' := [.inr (.inr 103)]) rfl ?_
    refine jw_W_call (as := [.inr (.inr 103)]) (rest := []) rfl rfl rfl rfl (Nat.le_of_ble_eq_true rfl) (.inr rfl) (w9) (by omega) ?_ rfl
    rintro r1 σz ⟨rfl, hs⟩
    rw [hs]
    show jw_W (js_S n) _ md_201 2 [some (.inr (.inr 103)), some (.inl a), x2] [.inl q.1] τ _
    refine jw_W_n 1 (i' := 3) (ls' := [some (.inr (.inr 103)), some (.inl a), x2]) (st' := [.inl 11, .inl q.1]) rfl ?_
    refine jw_W_ic rfl (by unfold jw_rg; omega) (by unfold jw_rg; omega) (fun hc1 => ?_) (fun hc1 => ?_)
    · have hc1 : q.1 = 11 := hc1
      obtain ⟨z, hz, hz1, hq2, hz2, hza⟩ := hland (by omega)
      refine jw_W_n 1 (i' := 11) (ls' := [some (.inr (.inr 103)), some (.inl a), x2]) (st' := [.inr (.inr 103)]) rfl ?_
      refine jw_W_gf rfl rfl rfl ?_
      show jw_W (js_S n) _ md_201 12 [some (.inr (.inr 103)), some (.inl a), x2] [.inr (.inr 109)] τ _
      refine jw_W_n 1 (i' := 13) (ls' := [some (.inr (.inr 103)), some (.inl a), x2]) (st' := [.inr (.inr 103), .inr (.inr 109)]) rfl ?_
      refine jw_W_gf rfl rfl rfl ?_
      show jw_W (js_S n) _ md_201 14 [some (.inr (.inr 103)), some (.inl a), x2] [.inl (τ 103 14), .inr (.inr 109)] τ _
      refine jw_W_n 2 (i' := 16) (ls' := [some (.inr (.inr 103)), some (.inl a), x2]) (st' := [.inl (τ 103 14 - 1), .inr (.inr 109)]) rfl ?_
      refine jw_W_ia rfl rfl (by omega) (by omega) (by omega) ?_
      show jw_W (js_S n) _ md_201 17 [some (.inr (.inr 103)), some (.inl a), x2] [.inl (τ 109 (τ 103 14 - 1))] τ _
      refine jw_W_ldc (z := 1048576) rfl rfl ?_
      refine jw_W_irem rfl (by unfold jw_rg; omega) (by omega) ?_
      rw [hq2]
      refine jw_W_n 2 (i' := 21) (ls' := [some (.inr (.inr 103)), some (.inl a), some (.inl q.2)]) (st' := [.inr (.inr 103)]) rfl ?_
      refine jw_W_gf rfl rfl rfl ?_
      show jw_W (js_S n) _ md_201 22 [some (.inr (.inr 103)), some (.inl a), some (.inl q.2)] [.inr (.inr 108)] τ _
      refine jw_W_n 1 (i' := 23) (ls' := [some (.inr (.inr 103)), some (.inl a), some (.inl q.2)]) (st' := [.inl q.2, .inr (.inr 108)]) rfl ?_
      refine jw_W_ldc (z := 1048576) rfl rfl ?_
      refine jw_W_n 1 (i' := 25) (ls' := [some (.inr (.inr 103)), some (.inl a), some (.inl q.2)]) (st' := [.inr (.inr 103), .inl 1048576, .inl q.2, .inr (.inr 108)]) rfl ?_
      refine jw_W_gf rfl rfl rfl ?_
      show jw_W (js_S n) _ md_201 26 [some (.inr (.inr 103)), some (.inl a), some (.inl q.2)] [.inr (.inr 108), .inl 1048576, .inl q.2, .inr (.inr 108)] τ _
      refine jw_W_n 1 (i' := 27) (ls' := [some (.inr (.inr 103)), some (.inl a), some (.inl q.2)]) (st' := [.inl q.2, .inr (.inr 108), .inl 1048576, .inl q.2, .inr (.inr 108)]) rfl ?_
      refine jw_W_ia rfl rfl (by omega) (by omega) (by omega) ?_
      show jw_W (js_S n) _ md_201 28 [some (.inr (.inr 103)), some (.inl a), some (.inl q.2)] [.inl (τ 108 q.2), .inl 1048576, .inl q.2, .inr (.inr 108)] τ _
      refine jw_W_ldc (z := 1048576) rfl rfl ?_
      refine jw_W_idiv rfl (by unfold jw_rg; omega) (by omega) ?_
      rw [hz2]
      refine jw_W_n 2 (i' := 32) (ls' := [some (.inr (.inr 103)), some (.inl a), some (.inl q.2)]) (st' := [.inr (.inr 103), .inl (1048576 * z.1), .inl q.2, .inr (.inr 108)]) rfl ?_
      refine jw_W_gf rfl rfl rfl ?_
      show jw_W (js_S n) _ md_201 33 [some (.inr (.inr 103)), some (.inl a), some (.inl q.2)] [.inl (τ 103 13), .inl (1048576 * z.1), .inl q.2, .inr (.inr 108)] τ _
      refine jw_W_n 1 (i' := 34) (ls' := [some (.inr (.inr 103)), some (.inl a), some (.inl q.2)]) (st' := [.inl ((1048576 * z.1) + (τ 103 13)), .inl q.2, .inr (.inr 108)]) rfl ?_
      refine jw_W_is rfl (by omega) rfl (by omega) (by omega) (by omega) ?_
      refine jw_W_n 2 (i' := 37) (ls' := [some (.inr (.inr 103)), some (.inl a), some (.inl q.2)]) (st' := [.inr (.inr 103), .inr (.inr 103)]) rfl ?_
      refine jw_W_gf rfl rfl rfl ?_
      show jw_W (js_S n) _ md_201 38 [some (.inr (.inr 103)), some (.inl a), some (.inl q.2)] [.inl (τ 103 14), .inr (.inr 103)] ((jw_up τ 108 q.2 ((1048576 * z.1) + (τ 103 13)))) _
      refine jw_W_n 2 (i' := 40) (ls' := [some (.inr (.inr 103)), some (.inl a), some (.inl q.2)]) (st' := [.inl (τ 103 14 - 1), .inr (.inr 103)]) rfl ?_
      refine jw_W_pf (a := τ 103 14 - 1) rfl (by omega) rfl rfl rfl rfl rfl ?_
      refine jw_W_n 1 (i' := 0) (ls' := [some (.inr (.inr 103)), some (.inl a), some (.inl q.2)]) (st' := []) rfl ?_
      exact go (by omega) hz hz1 hza rfl
    · have hc1 : ¬ (q.1 = 11) := hc1
      refine jw_W_n 1 (i' := 5) (ls' := [some (.inr (.inr 103)), some (.inl a), x2]) (st' := [.inl a]) rfl ?_
      refine jw_W_if rfl (by unfold jw_rg; omega) (fun hc2 => ?_) (fun hc2 => ?_)
      · have hc2 : a = 0 := hc2
        refine jw_W_re rfl ?_
        exact stop (by omega)
      · have hc2 : ¬ (a = 0) := hc2
        refine jw_W_n 1 (i' := 7) (ls' := [some (.inr (.inr 103)), some (.inl a), x2]) (st' := [.inr (.inr 103)]) rfl ?_
        refine jw_W_call (as := [.inr (.inr 103)]) (rest := []) rfl rfl rfl rfl (Nat.le_of_ble_eq_true rfl) (.inr rfl) (w9) (by omega) ?_ rfl
        rintro r1 σz ⟨rfl, hs⟩
        rw [hs]
        show jw_W (js_S n) _ md_201 8 [some (.inr (.inr 103)), some (.inl a), x2] [.inl q.1] τ _
        refine jw_W_n 1 (i' := 9) (ls' := [some (.inr (.inr 103)), some (.inl a), x2]) (st' := [.inl 12, .inl q.1]) rfl ?_
        refine jw_W_ic rfl (by unfold jw_rg; omega) (by unfold jw_rg; omega) (fun hc3 => ?_) (fun hc3 => ?_)
        · have hc3 : q.1 ≠ 12 := hc3
          refine jw_W_re rfl ?_
          exact stop (by omega)
        · have hc3 : q.1 = 12 := Classical.not_not.mp hc3
          obtain ⟨z, hz, hz1, hq2, hz2, hza⟩ := hland (by omega)
          refine jw_W_n 1 (i' := 11) (ls' := [some (.inr (.inr 103)), some (.inl a), x2]) (st' := [.inr (.inr 103)]) rfl ?_
          refine jw_W_gf rfl rfl rfl ?_
          show jw_W (js_S n) _ md_201 12 [some (.inr (.inr 103)), some (.inl a), x2] [.inr (.inr 109)] τ _
          refine jw_W_n 1 (i' := 13) (ls' := [some (.inr (.inr 103)), some (.inl a), x2]) (st' := [.inr (.inr 103), .inr (.inr 109)]) rfl ?_
          refine jw_W_gf rfl rfl rfl ?_
          show jw_W (js_S n) _ md_201 14 [some (.inr (.inr 103)), some (.inl a), x2] [.inl (τ 103 14), .inr (.inr 109)] τ _
          refine jw_W_n 2 (i' := 16) (ls' := [some (.inr (.inr 103)), some (.inl a), x2]) (st' := [.inl (τ 103 14 - 1), .inr (.inr 109)]) rfl ?_
          refine jw_W_ia rfl rfl (by omega) (by omega) (by omega) ?_
          show jw_W (js_S n) _ md_201 17 [some (.inr (.inr 103)), some (.inl a), x2] [.inl (τ 109 (τ 103 14 - 1))] τ _
          refine jw_W_ldc (z := 1048576) rfl rfl ?_
          refine jw_W_irem rfl (by unfold jw_rg; omega) (by omega) ?_
          rw [hq2]
          refine jw_W_n 2 (i' := 21) (ls' := [some (.inr (.inr 103)), some (.inl a), some (.inl q.2)]) (st' := [.inr (.inr 103)]) rfl ?_
          refine jw_W_gf rfl rfl rfl ?_
          show jw_W (js_S n) _ md_201 22 [some (.inr (.inr 103)), some (.inl a), some (.inl q.2)] [.inr (.inr 108)] τ _
          refine jw_W_n 1 (i' := 23) (ls' := [some (.inr (.inr 103)), some (.inl a), some (.inl q.2)]) (st' := [.inl q.2, .inr (.inr 108)]) rfl ?_
          refine jw_W_ldc (z := 1048576) rfl rfl ?_
          refine jw_W_n 1 (i' := 25) (ls' := [some (.inr (.inr 103)), some (.inl a), some (.inl q.2)]) (st' := [.inr (.inr 103), .inl 1048576, .inl q.2, .inr (.inr 108)]) rfl ?_
          refine jw_W_gf rfl rfl rfl ?_
          show jw_W (js_S n) _ md_201 26 [some (.inr (.inr 103)), some (.inl a), some (.inl q.2)] [.inr (.inr 108), .inl 1048576, .inl q.2, .inr (.inr 108)] τ _
          refine jw_W_n 1 (i' := 27) (ls' := [some (.inr (.inr 103)), some (.inl a), some (.inl q.2)]) (st' := [.inl q.2, .inr (.inr 108), .inl 1048576, .inl q.2, .inr (.inr 108)]) rfl ?_
          refine jw_W_ia rfl rfl (by omega) (by omega) (by omega) ?_
          show jw_W (js_S n) _ md_201 28 [some (.inr (.inr 103)), some (.inl a), some (.inl q.2)] [.inl (τ 108 q.2), .inl 1048576, .inl q.2, .inr (.inr 108)] τ _
          refine jw_W_ldc (z := 1048576) rfl rfl ?_
          refine jw_W_idiv rfl (by unfold jw_rg; omega) (by omega) ?_
          rw [hz2]
          refine jw_W_n 2 (i' := 32) (ls' := [some (.inr (.inr 103)), some (.inl a), some (.inl q.2)]) (st' := [.inr (.inr 103), .inl (1048576 * z.1), .inl q.2, .inr (.inr 108)]) rfl ?_
          refine jw_W_gf rfl rfl rfl ?_
          show jw_W (js_S n) _ md_201 33 [some (.inr (.inr 103)), some (.inl a), some (.inl q.2)] [.inl (τ 103 13), .inl (1048576 * z.1), .inl q.2, .inr (.inr 108)] τ _
          refine jw_W_n 1 (i' := 34) (ls' := [some (.inr (.inr 103)), some (.inl a), some (.inl q.2)]) (st' := [.inl ((1048576 * z.1) + (τ 103 13)), .inl q.2, .inr (.inr 108)]) rfl ?_
          refine jw_W_is rfl (by omega) rfl (by omega) (by omega) (by omega) ?_
          refine jw_W_n 2 (i' := 37) (ls' := [some (.inr (.inr 103)), some (.inl a), some (.inl q.2)]) (st' := [.inr (.inr 103), .inr (.inr 103)]) rfl ?_
          refine jw_W_gf rfl rfl rfl ?_
          show jw_W (js_S n) _ md_201 38 [some (.inr (.inr 103)), some (.inl a), some (.inl q.2)] [.inl (τ 103 14), .inr (.inr 103)] ((jw_up τ 108 q.2 ((1048576 * z.1) + (τ 103 13)))) _
          refine jw_W_n 2 (i' := 40) (ls' := [some (.inr (.inr 103)), some (.inl a), some (.inl q.2)]) (st' := [.inl (τ 103 14 - 1), .inr (.inr 103)]) rfl ?_
          refine jw_W_pf (a := τ 103 14 - 1) rfl (by omega) rfl rfl rfl rfl rfl ?_
          refine jw_W_n 1 (i' := 0) (ls' := [some (.inr (.inr 103)), some (.inl a), some (.inl q.2)]) (st' := []) rfl ?_
          exact go (by omega) hz hz1 hza rfl
theorem jo_lands {n : Nat} {σ : jw_H} {b : Int → Int} {d m i o : Int} {W c : jo_C} (hR : jo_rp b d m i o W c σ) {a : Int} {all : Bool} (ha : (a = 1 ∧ all = true) ∨ (a = 0 ∧ all = false)) : jw_T (js_S n) 3 201 [.inr (.inr 103), .inl a] σ (fun r σ' => r = none ∧ jo_f σ σ' ∧ jo_rp b d m i o (jo_ln all W c).1 (jo_ln all W c).2 σ') := by
  refine jw_T_of (D := 2) (M := mm_201) rfl (Nat.le_of_ble_eq_true rfl) (ls0 := [some (.inr (.inr 103)), some (.inl a), none]) rfl ?_ (by rintro _ _ ⟨rfl, -⟩; rfl)
  exact jo_lands_loop ha W hR (jo_f_rf σ)
theorem jo_ws_len {σ : jw_H} {c : jo_C} (W : jo_C) {q : Int × Int} (h : jo_ws σ c W) (e : σ 109 (W.length : Int) = 1048576 * q.1 + q.2) (h1 : 2 ≤ q.1 ∧ q.1 ≤ 14) (h2 : 0 ≤ q.2 ∧ q.2 < 1048576) (h3 : q.1 = 11 ∨ q.1 = 12 → ∃ z, c[q.2.toNat]? = some z ∧ (z.1 = 11 ∨ z.1 = 12)) : jo_ws σ c (q :: W) := ⟨⟨e, h1, h2, h3⟩, h⟩
theorem jo_jumps {n : Nat} {σ : jw_H} {b : Int → Int} {d m i o : Int} {W c : jo_C} (hR : jo_rp b d m i o W c σ) {x : Int} (hx : x = 11 ∨ x = 12) (him : i < m)  : jw_T (js_S n) 2 202 [.inr (.inr 103), .inl x] σ (fun r σ' => r = none ∧ jo_f σ σ' ∧ jo_rp b d m (i + 1) o ((x, (c.length : Int)) :: W) (c ++ [(x, -1)]) σ') := by
  refine jw_T_of (D := 1) (M := mm_202) rfl (Nat.le_of_ble_eq_true rfl) (ls0 := [some (.inr (.inr 103)), some (.inl x)]) rfl ?_ (by rintro _ _ ⟨rfl, -⟩; rfl)
  have hR0 := hR
  obtain ⟨ht, em, h240, h8, hi, h12, ho, h13, h14, hb, hc, hw⟩ := hR
  have hUP : ∀ {υ : jw_H}, υ = (jw_up (jw_up (jw_up (jw_up (jw_up σ 109 (σ 103 14) ((1048576 * x) + (σ 103 13))) 103 14 (σ 103 14 + 1)) 108 (σ 103 13) ((1048576 * x) + 0)) 103 13 (σ 103 13 + 1)) 103 8 (σ 103 8 + 1)) → (none : Option jw_V) = none ∧ jo_f σ υ ∧ jo_rp b d m (i + 1) o ((x, (c.length : Int)) :: W) (c ++ [(x, -1)]) υ := by
    intro υ hυ
    have hfu : jo_f σ υ := by rw [hυ]; exact jo_f_up (jo_f_up (jo_f_up (jo_f_up (jo_f_up (jo_f_rf σ) (by omega)) (by omega)) (by omega)) (by omega)) (by omega)
    have hl1 : ((c ++ [(x, (-1 : Int))]).length : Int) = (c.length : Int) + 1 := by
      rw [List.length_append]
      rfl
    have hop : jo_op ((x, (c.length : Int)) :: W) = jo_op W := by
      show (if x = 10 ∨ x = 13 ∨ x = 14 then 1 else 0) + jo_op W = _
      rw [if_neg (by omega), Nat.zero_add]
    have hwt : jo_wt ((x, (c.length : Int)) :: W) = jo_wt W := by
      show (if x = 11 ∨ x = 12 then 0 else 1) + jo_wt W = _
      rw [if_pos hx, Nat.zero_add]
    refine ⟨rfl, hfu, jo_rp_mk hR0 hfu (by rw [hυ, jw_up_eq]; omega) (by omega) (by rw [hυ]; exact h12) ⟨by rw [hop]; exact ho.1, ho.2⟩ (by rw [hl1, hυ, jw_up_ne _ (by omega), jw_up_eq]; omega) (by rw [List.length_cons, hυ, jw_up_ne _ (by omega), jw_up_ne _ (by omega), jw_up_out _ _ _ (by omega), jw_up_eq]; omega) (by rw [hl1, hwt, List.length_cons]; omega) (jo_cr_snoc hc ?_ (fun j hj => ?_) (by show 0 ≤ x ∧ x ≤ 12; omega) (by show -1 ≤ (-1 : Int) ∧ (-1 : Int) ≤ 99999; omega)) (jo_ws_len W (jo_ws_snoc W (jo_ws_fr W hw (fun j hj => ?_))) ?_ (by show 2 ≤ x ∧ x ≤ 14; omega) (by show 0 ≤ (c.length : Int) ∧ (c.length : Int) < 1048576; omega) (fun _ => ⟨(x, -1), ?_, hx⟩))⟩
    · show _ = 1048576 * x + (if x = 11 ∨ x = 12 then (if (-1 : Int) < 0 then 0 else _) else _)
      rw [if_pos hx, if_pos (by omega), hυ, jw_up_out _ _ _ (by omega), jw_up_out _ _ _ (by omega), ← h13, jw_up_eq]
    · rw [hυ, jw_up_out _ _ _ (by omega), jw_up_out _ _ _ (by omega), jw_up_ne _ (by omega), jw_up_out _ _ _ (by omega), jw_up_out _ _ _ (by omega)]
    · rw [hυ, jw_up_out _ _ _ (by omega), jw_up_out _ _ _ (by omega), jw_up_out _ _ _ (by omega), jw_up_out _ _ _ (by omega), jw_up_ne _ (by omega)]
    · show υ 109 (W.length : Int) = 1048576 * x + (c.length : Int)
      rw [hυ, jw_up_out _ _ _ (by omega), jw_up_out _ _ _ (by omega), jw_up_out _ _ _ (by omega), jw_up_out _ _ _ (by omega), ← h14, jw_up_eq, h13]
    · show (c ++ [(x, -1)])[((c.length : Int)).toNat]? = _
      rw [Int.toNat_natCast, List.getElem?_append_right (Nat.le_refl _), Nat.sub_self]
      rfl
  refine jw_W_n 1 (i' := 1) (ls' := [some (.inr (.inr 103)), some (.inl x)]) (st' := [.inr (.inr 103)]) rfl ?_
  refine jw_W_gf rfl rfl rfl ?_
  show jw_W (js_S n) _ md_202 2 [some (.inr (.inr 103)), some (.inl x)] [.inr (.inr 109)] σ _
  refine jw_W_n 1 (i' := 3) (ls' := [some (.inr (.inr 103)), some (.inl x)]) (st' := [.inr (.inr 103), .inr (.inr 109)]) rfl ?_
  refine jw_W_gf rfl rfl rfl ?_
  show jw_W (js_S n) _ md_202 4 [some (.inr (.inr 103)), some (.inl x)] [.inl (σ 103 14), .inr (.inr 109)] σ _
  refine jw_W_ldc (z := 1048576) rfl rfl ?_
  refine jw_W_n 3 (i' := 8) (ls' := [some (.inr (.inr 103)), some (.inl x)]) (st' := [.inr (.inr 103), .inl (1048576 * x), .inl (σ 103 14), .inr (.inr 109)]) rfl ?_
  refine jw_W_gf rfl rfl rfl ?_
  show jw_W (js_S n) _ md_202 9 [some (.inr (.inr 103)), some (.inl x)] [.inl (σ 103 13), .inl (1048576 * x), .inl (σ 103 14), .inr (.inr 109)] σ _
  refine jw_W_n 1 (i' := 10) (ls' := [some (.inr (.inr 103)), some (.inl x)]) (st' := [.inl ((1048576 * x) + (σ 103 13)), .inl (σ 103 14), .inr (.inr 109)]) rfl ?_
  refine jw_W_is rfl (by omega) rfl (by omega) (by omega) (by omega) ?_
  refine jw_W_n 2 (i' := 13) (ls' := [some (.inr (.inr 103)), some (.inl x)]) (st' := [.inr (.inr 103), .inr (.inr 103)]) rfl ?_
  refine jw_W_gf rfl rfl rfl ?_
  show jw_W (js_S n) _ md_202 14 [some (.inr (.inr 103)), some (.inl x)] [.inl (σ 103 14), .inr (.inr 103)] ((jw_up σ 109 (σ 103 14) ((1048576 * x) + (σ 103 13)))) _
  refine jw_W_n 2 (i' := 16) (ls' := [some (.inr (.inr 103)), some (.inl x)]) (st' := [.inl (σ 103 14 + 1), .inr (.inr 103)]) rfl ?_
  refine jw_W_pf (a := σ 103 14 + 1) rfl (by omega) rfl rfl rfl rfl rfl ?_
  refine jw_W_n 3 (i' := 20) (ls' := [some (.inr (.inr 103)), some (.inl x)]) (st' := [.inl 0, .inl x, .inr (.inr 103)]) rfl ?_
  refine jw_W_call (as := [.inr (.inr 103), .inl x, .inl 0]) (rest := []) rfl rfl rfl rfl (Nat.le_of_ble_eq_true rfl) (.inr rfl) (jo_notes (by omega) (by omega) (by show 0 ≤ σ 103 13 ∧ σ 103 13 < 260; omega)) (by omega) ?_ rfl
  rintro r1 σz ⟨rfl, hs⟩
  rw [hs]
  show jw_W (js_S n) _ md_202 21 [some (.inr (.inr 103)), some (.inl x)] [] ((jw_up (jw_up (jw_up (jw_up σ 109 (σ 103 14) ((1048576 * x) + (σ 103 13))) 103 14 (σ 103 14 + 1)) 108 (σ 103 13) ((1048576 * x) + 0)) 103 13 (σ 103 13 + 1))) _
  refine jw_W_n 2 (i' := 23) (ls' := [some (.inr (.inr 103)), some (.inl x)]) (st' := [.inr (.inr 103), .inr (.inr 103)]) rfl ?_
  refine jw_W_gf rfl rfl rfl ?_
  show jw_W (js_S n) _ md_202 24 [some (.inr (.inr 103)), some (.inl x)] [.inl (σ 103 8), .inr (.inr 103)] ((jw_up (jw_up (jw_up (jw_up σ 109 (σ 103 14) ((1048576 * x) + (σ 103 13))) 103 14 (σ 103 14 + 1)) 108 (σ 103 13) ((1048576 * x) + 0)) 103 13 (σ 103 13 + 1))) _
  refine jw_W_n 2 (i' := 26) (ls' := [some (.inr (.inr 103)), some (.inl x)]) (st' := [.inl (σ 103 8 + 1), .inr (.inr 103)]) rfl ?_
  refine jw_W_pf (a := σ 103 8 + 1) rfl (by omega) rfl rfl rfl rfl rfl ?_
  refine jw_W_re rfl ?_
  exact hUP rfl
theorem jo_opens {n : Nat} {σ : jw_H} {b : Int → Int} {d m i o : Int} {W c : jo_C} (hR : jo_rp b d m i o W c σ) {x : Int} (hx : x = 10 ∨ x = 13 ∨ x = 14) (him : i < m)  : jw_T (js_S n) 2 192 [.inr (.inr 103), .inl x] σ (fun r σ' => (r = some (.inl 0) ∧ o = 6 ∧ σ' = jw_up σ 103 10 (-1000 * 5 - i)) ∨ (r = some (.inl 1) ∧ o < 6 ∧ jo_f σ σ' ∧ jo_rp b d m (i + 1) (o + 1) ((x, 0) :: W) c σ')) := by
  refine jw_T_of (D := 1) (M := mm_192) rfl (Nat.le_of_ble_eq_true rfl) (ls0 := [some (.inr (.inr 103)), some (.inl x)]) rfl ?_ (by rintro _ _ (⟨rfl, -⟩ | ⟨rfl, -⟩) <;> rfl)
  have hR0 := hR
  obtain ⟨ht, em, h240, h8, hi, h12, ho, h13, h14, hb, hc, hw⟩ := hR
  have hUP : o ≠ 6 → ∀ {υ : jw_H}, υ = (jw_up (jw_up (jw_up (jw_up σ 103 12 (σ 103 12 + 1)) 109 (σ 103 14) (1048576 * x)) 103 14 (σ 103 14 + 1)) 103 8 (σ 103 8 + 1)) → (some (Sum.inl 1 : jw_V) = some (.inl 0) ∧ o = 6 ∧ υ = jw_up σ 103 10 (-1000 * 5 - i)) ∨ (some (Sum.inl 1 : jw_V) = some (.inl 1) ∧ o < 6 ∧ jo_f σ υ ∧ jo_rp b d m (i + 1) (o + 1) ((x, 0) :: W) c υ) := by
    intro ho6 υ hυ
    have hfu : jo_f σ υ := by rw [hυ]; exact jo_f_up (jo_f_up (jo_f_up (jo_f_up (jo_f_rf σ) (by omega)) (by omega)) (by omega)) (by omega)
    have hop : jo_op ((x, (0 : Int)) :: W) = 1 + jo_op W := by
      show (if x = 10 ∨ x = 13 ∨ x = 14 then 1 else 0) + jo_op W = _
      rw [if_pos hx]
    have hwt : jo_wt ((x, (0 : Int)) :: W) = 1 + jo_wt W := by
      show (if x = 11 ∨ x = 12 then 0 else 1) + jo_wt W = _
      rw [if_neg (by omega)]
    refine .inr ⟨rfl, by omega, hfu, jo_rp_mk hR0 hfu (by rw [hυ, jw_up_eq]; omega) (by omega) (by rw [hυ, jw_up_ne _ (by omega), jw_up_ne _ (by omega), jw_up_out _ _ _ (by omega), jw_up_eq]; omega) ⟨by rw [hop]; omega, by omega⟩ (by rw [hυ]; exact h13) (by rw [List.length_cons, hυ, jw_up_ne _ (by omega), jw_up_eq]; omega) (by rw [hwt, List.length_cons]; omega) (jo_cr_fr hc (by rw [hυ]; rfl)) (jo_ws_len W (jo_ws_fr W hw (fun j hj => ?_)) ?_ (by show 2 ≤ x ∧ x ≤ 14; omega) (by show 0 ≤ (0 : Int) ∧ (0 : Int) < 1048576; omega) (fun w => absurd w (by show ¬ (x = 11 ∨ x = 12); omega)))⟩
    · rw [hυ, jw_up_out _ _ _ (by omega), jw_up_out _ _ _ (by omega), jw_up_ne _ (by omega), jw_up_out _ _ _ (by omega)]
    · show υ 109 (W.length : Int) = 1048576 * x + 0
      rw [hυ, jw_up_out _ _ _ (by omega), jw_up_out _ _ _ (by omega), ← h14, jw_up_eq]
      omega
  refine jw_W_n 1 (i' := 1) (ls' := [some (.inr (.inr 103)), some (.inl x)]) (st' := [.inr (.inr 103)]) rfl ?_
  refine jw_W_gf rfl rfl rfl ?_
  show jw_W (js_S n) _ md_192 2 [some (.inr (.inr 103)), some (.inl x)] [.inl (σ 103 12)] σ _
  refine jw_W_n 1 (i' := 3) (ls' := [some (.inr (.inr 103)), some (.inl x)]) (st' := [.inl 6, .inl (σ 103 12)]) rfl ?_
  refine jw_W_ic rfl (by unfold jw_rg; omega) (by unfold jw_rg; omega) (fun hc1 => ?_) (fun hc1 => ?_)
  · have hc1 : (σ 103 12) ≠ 6 := hc1
    refine jw_W_n 2 (i' := 12) (ls' := [some (.inr (.inr 103)), some (.inl x)]) (st' := [.inr (.inr 103), .inr (.inr 103)]) rfl ?_
    refine jw_W_gf rfl rfl rfl ?_
    show jw_W (js_S n) _ md_192 13 [some (.inr (.inr 103)), some (.inl x)] [.inl (σ 103 12), .inr (.inr 103)] σ _
    refine jw_W_n 2 (i' := 15) (ls' := [some (.inr (.inr 103)), some (.inl x)]) (st' := [.inl (σ 103 12 + 1), .inr (.inr 103)]) rfl ?_
    refine jw_W_pf (a := σ 103 12 + 1) rfl (by omega) rfl rfl rfl rfl rfl ?_
    refine jw_W_n 1 (i' := 17) (ls' := [some (.inr (.inr 103)), some (.inl x)]) (st' := [.inr (.inr 103)]) rfl ?_
    refine jw_W_gf rfl rfl rfl ?_
    show jw_W (js_S n) _ md_192 18 [some (.inr (.inr 103)), some (.inl x)] [.inr (.inr 109)] ((jw_up σ 103 12 (σ 103 12 + 1))) _
    refine jw_W_n 1 (i' := 19) (ls' := [some (.inr (.inr 103)), some (.inl x)]) (st' := [.inr (.inr 103), .inr (.inr 109)]) rfl ?_
    refine jw_W_gf rfl rfl rfl ?_
    show jw_W (js_S n) _ md_192 20 [some (.inr (.inr 103)), some (.inl x)] [.inl (σ 103 14), .inr (.inr 109)] ((jw_up σ 103 12 (σ 103 12 + 1))) _
    refine jw_W_ldc (z := 1048576) rfl rfl ?_
    refine jw_W_n 2 (i' := 23) (ls' := [some (.inr (.inr 103)), some (.inl x)]) (st' := [.inl (1048576 * x), .inl (σ 103 14), .inr (.inr 109)]) rfl ?_
    refine jw_W_is rfl (by omega) rfl (by omega) (by omega) (by omega) ?_
    refine jw_W_n 2 (i' := 26) (ls' := [some (.inr (.inr 103)), some (.inl x)]) (st' := [.inr (.inr 103), .inr (.inr 103)]) rfl ?_
    refine jw_W_gf rfl rfl rfl ?_
    show jw_W (js_S n) _ md_192 27 [some (.inr (.inr 103)), some (.inl x)] [.inl (σ 103 14), .inr (.inr 103)] ((jw_up (jw_up σ 103 12 (σ 103 12 + 1)) 109 (σ 103 14) (1048576 * x))) _
    refine jw_W_n 2 (i' := 29) (ls' := [some (.inr (.inr 103)), some (.inl x)]) (st' := [.inl (σ 103 14 + 1), .inr (.inr 103)]) rfl ?_
    refine jw_W_pf (a := σ 103 14 + 1) rfl (by omega) rfl rfl rfl rfl rfl ?_
    refine jw_W_n 2 (i' := 32) (ls' := [some (.inr (.inr 103)), some (.inl x)]) (st' := [.inr (.inr 103), .inr (.inr 103)]) rfl ?_
    refine jw_W_gf rfl rfl rfl ?_
    show jw_W (js_S n) _ md_192 33 [some (.inr (.inr 103)), some (.inl x)] [.inl (σ 103 8), .inr (.inr 103)] ((jw_up (jw_up (jw_up σ 103 12 (σ 103 12 + 1)) 109 (σ 103 14) (1048576 * x)) 103 14 (σ 103 14 + 1))) _
    refine jw_W_n 2 (i' := 35) (ls' := [some (.inr (.inr 103)), some (.inl x)]) (st' := [.inl (σ 103 8 + 1), .inr (.inr 103)]) rfl ?_
    refine jw_W_pf (a := σ 103 8 + 1) rfl (by omega) rfl rfl rfl rfl rfl ?_
    refine jw_W_n 1 (i' := 37) (ls' := [some (.inr (.inr 103)), some (.inl x)]) (st' := [.inl 1]) rfl ?_
    refine jw_W_ir rfl ?_
    exact hUP (by omega) rfl
  · have hc1 : (σ 103 12) = 6 := Classical.not_not.mp hc1
    refine jw_W_n 3 (i' := 7) (ls' := [some (.inr (.inr 103)), some (.inl x)]) (st' := [.inr (.inr 103), .inl 5, .inr (.inr 103)]) rfl ?_
    refine jw_W_gf rfl rfl rfl ?_
    show jw_W (js_S n) _ md_192 8 [some (.inr (.inr 103)), some (.inl x)] [.inl (σ 103 8), .inl 5, .inr (.inr 103)] σ _
    refine jw_W_call (as := [.inr (.inr 103), .inl 5, .inl (σ 103 8)]) (rest := []) rfl rfl rfl rfl (Nat.le_of_ble_eq_true rfl) (.inr rfl) (jk_wrongAt (by omega) (by omega)) (by omega) ?_ rfl
    rintro r1 σz ⟨rfl, hs⟩
    rename jw_H => σw
    show jw_W (js_S n) _ md_192 9 [some (.inr (.inr 103)), some (.inl x)] [.inl 0] σw _
    refine jw_W_ir rfl ?_
    exact .inl ⟨rfl, by omega, by rw [hs, h8]⟩
theorem jo_number_loop {n : Nat} {σ : jw_H} {b : Int → Int} {m i : Int} (i0 : 0 ≤ i) (hm : m ≤ 240) (hbb : ∀ j, 0 ≤ j → j < m → 0 ≤ b j ∧ b j ≤ 255) : ∀ (k : Nat) {τ : jw_H} {a t : Int}, jk_tr τ b → τ 103 9 = m → τ 103 8 = t → τ 103 11 = a → t + (k : Int) = i + 5 → i ≤ t → t ≤ m → 0 ≤ a → (a + 1) * 10 ^ k ≤ 100000 → jk_f8 σ τ → jw_W (js_S n) 2 md_190 6 [some (.inr (.inr 103)), some (.inl i)] [] τ (fun r σ' => jk_f8 σ σ' ∧ ((r = some (.inl 0) ∧ (48 ≤ jk_h b m (jl_num b m k t a).2 ∧ jk_h b m (jl_num b m k t a).2 ≤ 57) ∧ σ' 103 10 = -1000 * 2 - (jl_num b m k t a).2) ∨ (r = some (.inl 1) ∧ ¬ (48 ≤ jk_h b m (jl_num b m k t a).2 ∧ jk_h b m (jl_num b m k t a).2 ≤ 57) ∧ σ' 103 11 = (jl_num b m k t a).1 ∧ σ' 103 8 = (jl_num b m k t a).2)))
  | k, τ, a, t, ht, e9, e8, e11, hk, it, tm, a0, ha, hf => by
    have hh := jk_h_rg (b := b) (n := m) (i := t) (by omega) hbb
    have hlt := jk_h_lt (b := b) (m := m) (i := t)
    have ha5 : a ≤ 99999 := by
      have p1 : (1 : Int) ≤ 10 ^ k := Int.pow_pos (by omega)
      have := Int.mul_le_mul_of_nonneg_left p1 (show (0 : Int) ≤ a + 1 by omega)
      omega
    have stop : ¬ (48 ≤ jk_h b m t ∧ jk_h b m t ≤ 57) → (fun (r : Option jw_V) (σ' : jw_H) => jk_f8 σ σ' ∧ ((r = some (.inl 0) ∧ (48 ≤ jk_h b m (jl_num b m k t a).2 ∧ jk_h b m (jl_num b m k t a).2 ≤ 57) ∧ σ' 103 10 = -1000 * 2 - (jl_num b m k t a).2) ∨ (r = some (.inl 1) ∧ ¬ (48 ≤ jk_h b m (jl_num b m k t a).2 ∧ jk_h b m (jl_num b m k t a).2 ≤ 57) ∧ σ' 103 11 = (jl_num b m k t a).1 ∧ σ' 103 8 = (jl_num b m k t a).2))) (some (.inl 1)) τ := by
      intro hn
      have ee : jl_num b m k t a = (a, t) := by
        match k with
        | 0 => rfl
        | k + 1 => exact if_neg hn
      rw [ee]
      exact ⟨hf, .inr ⟨rfl, hn, e11, e8⟩⟩
    have bad : (48 ≤ jk_h b m t ∧ jk_h b m t ≤ 57) → t = i + 5 → ∀ {υ : jw_H}, υ = jw_up τ 103 10 (-1000 * 2 - t) → (fun (r : Option jw_V) (σ' : jw_H) => jk_f8 σ σ' ∧ ((r = some (.inl 0) ∧ (48 ≤ jk_h b m (jl_num b m k t a).2 ∧ jk_h b m (jl_num b m k t a).2 ≤ 57) ∧ σ' 103 10 = -1000 * 2 - (jl_num b m k t a).2) ∨ (r = some (.inl 1) ∧ ¬ (48 ≤ jk_h b m (jl_num b m k t a).2 ∧ jk_h b m (jl_num b m k t a).2 ≤ 57) ∧ σ' 103 11 = (jl_num b m k t a).1 ∧ σ' 103 8 = (jl_num b m k t a).2))) (some (.inl 0)) υ := by
      intro hy h5 υ hυ
      have hk0 : k = 0 := by omega
      subst hk0
      exact ⟨by rw [hυ]; exact jk_f8_up hf (by omega), .inl ⟨rfl, hy, by rw [hυ, jw_up_eq]; rfl⟩⟩
    have go : (48 ≤ jk_h b m t ∧ jk_h b m t ≤ 57) → t ≠ i + 5 → ∀ {υ : jw_H}, υ = (jw_up (jw_up τ 103 11 (((10 * (τ 103 11)) + (jk_h b m t)) - 48)) 103 8 (τ 103 8 + 1)) → jw_W (js_S n) 2 md_190 6 [some (.inr (.inr 103)), some (.inl i)] [] υ (fun r σ' => jk_f8 σ σ' ∧ ((r = some (.inl 0) ∧ (48 ≤ jk_h b m (jl_num b m k t a).2 ∧ jk_h b m (jl_num b m k t a).2 ≤ 57) ∧ σ' 103 10 = -1000 * 2 - (jl_num b m k t a).2) ∨ (r = some (.inl 1) ∧ ¬ (48 ≤ jk_h b m (jl_num b m k t a).2 ∧ jk_h b m (jl_num b m k t a).2 ≤ 57) ∧ σ' 103 11 = (jl_num b m k t a).1 ∧ σ' 103 8 = (jl_num b m k t a).2))) := by
      intro hy h5 υ hυ
      match k, hk, ha with
      | 0, hk, ha => omega
      | k + 1, hk, ha =>
        have ee : jl_num b m (k + 1) t a = jl_num b m k (t + 1) (10 * a + jk_h b m t - 48) := if_pos hy
        rw [ee]
        have hfu : jk_f8 τ υ := by rw [hυ]; exact jk_f8_up (jk_f8_up (jk_f8_rf τ) (by omega)) (by omega)
        have hfu2 : jk_f8 σ υ := by rw [hυ]; exact jk_f8_up (jk_f8_up hf (by omega)) (by omega)
        have u8 : υ 103 8 = t + 1 := by rw [hυ, jw_up_eq]; omega
        have u11 : υ 103 11 = 10 * a + jk_h b m t - 48 := by rw [hυ, jw_up_ne _ (by omega), jw_up_eq, e11]
        have hl := hlt (by omega)
        refine jo_number_loop i0 hm hbb k (jk_tr_f8 ht hfu (by omega)) (by rw [hfu.2 9 (by omega) (by omega) (by omega)]; exact e9) u8 u11 (by omega) (by omega) (by omega) (by omega) ?_ hfu2
        have p0 : (0 : Int) ≤ 10 ^ k := Int.le_of_lt (Int.pow_pos (by omega))
        have h1 : (10 * a + jk_h b m t - 48 + 1) * 10 ^ k ≤ ((a + 1) * 10) * 10 ^ k := Int.mul_le_mul_of_nonneg_right (by omega) p0
        have h2 : (a + 1) * 10 ^ (k + 1) = ((a + 1) * 10) * 10 ^ k := by
          rw [Int.pow_succ, Int.mul_comm ((10 : Int) ^ k) 10, ← Int.mul_assoc]
        omega
    clear ha
    refine jw_W_n 1 (i' := 7) (ls' := [some (.inr (.inr 103)), some (.inl i)]) (st' := [.inr (.inr 103)]) rfl ?_
    refine jw_W_call (as := [.inr (.inr 103)]) (rest := []) rfl rfl rfl rfl (Nat.le_of_ble_eq_true rfl) (.inr rfl) (jk_isDigitR ht) (by omega) ?_ rfl
    rintro r1 σz (⟨rfl, hs, hd⟩ | ⟨rfl, hs, hd⟩)
    · rw [hs]
      rw [e9, e8] at hd
      unfold jk_dg at hd
      show jw_W (js_S n) _ md_190 8 [some (.inr (.inr 103)), some (.inl i)] [.inl 1] τ _
      refine jw_W_if rfl (by unfold jw_rg; omega) (fun hc1 => ?_) (fun hc1 => ?_)
      · exact absurd hc1 (show ¬ ((1 : Int) = 0) by omega)
      · clear hc1
        refine jw_W_n 1 (i' := 10) (ls' := [some (.inr (.inr 103)), some (.inl i)]) (st' := [.inr (.inr 103)]) rfl ?_
        refine jw_W_gf rfl rfl rfl ?_
        show jw_W (js_S n) _ md_190 11 [some (.inr (.inr 103)), some (.inl i)] [.inl (τ 103 8)] τ _
        refine jw_W_n 3 (i' := 14) (ls' := [some (.inr (.inr 103)), some (.inl i)]) (st' := [.inl (i + 5), .inl (τ 103 8)]) rfl ?_
        refine jw_W_ic rfl (by unfold jw_rg; omega) (by unfold jw_rg; omega) (fun hc2 => ?_) (fun hc2 => ?_)
        · have hc2 : (τ 103 8) ≠ (i + 5) := hc2
          refine jw_W_n 3 (i' := 24) (ls' := [some (.inr (.inr 103)), some (.inl i)]) (st' := [.inr (.inr 103), .inl 10, .inr (.inr 103)]) rfl ?_
          refine jw_W_gf rfl rfl rfl ?_
          show jw_W (js_S n) _ md_190 25 [some (.inr (.inr 103)), some (.inl i)] [.inl (τ 103 11), .inl 10, .inr (.inr 103)] τ _
          refine jw_W_n 2 (i' := 27) (ls' := [some (.inr (.inr 103)), some (.inl i)]) (st' := [.inr (.inr 103), .inl (10 * (τ 103 11)), .inr (.inr 103)]) rfl ?_
          refine jw_W_call (as := [.inr (.inr 103)]) (rest := [.inl (10 * (τ 103 11)), .inr (.inr 103)]) rfl rfl rfl rfl (Nat.le_of_ble_eq_true rfl) (.inr rfl) (jk_hereR ht) (by omega) ?_ rfl
          rintro r1 σz ⟨rfl, hs⟩
          rw [hs]
          rw [e9, e8]
          show jw_W (js_S n) _ md_190 28 [some (.inr (.inr 103)), some (.inl i)] [.inl (jk_h b m t), .inl (10 * (τ 103 11)), .inr (.inr 103)] τ _
          refine jw_W_n 3 (i' := 31) (ls' := [some (.inr (.inr 103)), some (.inl i)]) (st' := [.inl (((10 * (τ 103 11)) + (jk_h b m t)) - 48), .inr (.inr 103)]) rfl ?_
          refine jw_W_pf (a := ((10 * (τ 103 11)) + (jk_h b m t)) - 48) rfl (by omega) rfl rfl rfl rfl rfl ?_
          refine jw_W_n 2 (i' := 34) (ls' := [some (.inr (.inr 103)), some (.inl i)]) (st' := [.inr (.inr 103), .inr (.inr 103)]) rfl ?_
          refine jw_W_gf rfl rfl rfl ?_
          show jw_W (js_S n) _ md_190 35 [some (.inr (.inr 103)), some (.inl i)] [.inl (τ 103 8), .inr (.inr 103)] ((jw_up τ 103 11 (((10 * (τ 103 11)) + (jk_h b m t)) - 48))) _
          refine jw_W_n 2 (i' := 37) (ls' := [some (.inr (.inr 103)), some (.inl i)]) (st' := [.inl (τ 103 8 + 1), .inr (.inr 103)]) rfl ?_
          refine jw_W_pf (a := τ 103 8 + 1) rfl (by omega) rfl rfl rfl rfl rfl ?_
          refine jw_W_n 1 (i' := 6) (ls' := [some (.inr (.inr 103)), some (.inl i)]) (st' := []) rfl ?_
          exact go (by omega) (by omega) rfl
        · have hc2 : (τ 103 8) = (i + 5) := Classical.not_not.mp hc2
          refine jw_W_n 3 (i' := 18) (ls' := [some (.inr (.inr 103)), some (.inl i)]) (st' := [.inr (.inr 103), .inl 2, .inr (.inr 103)]) rfl ?_
          refine jw_W_gf rfl rfl rfl ?_
          show jw_W (js_S n) _ md_190 19 [some (.inr (.inr 103)), some (.inl i)] [.inl (τ 103 8), .inl 2, .inr (.inr 103)] τ _
          refine jw_W_call (as := [.inr (.inr 103), .inl 2, .inl (τ 103 8)]) (rest := []) rfl rfl rfl rfl (Nat.le_of_ble_eq_true rfl) (.inr rfl) (jk_wrongAt (by omega) (by omega)) (by omega) ?_ rfl
          rintro r1 σz ⟨rfl, hs⟩
          rename jw_H => σw
          show jw_W (js_S n) _ md_190 20 [some (.inr (.inr 103)), some (.inl i)] [.inl 0] σw _
          refine jw_W_ir rfl ?_
          exact bad (by omega) (by omega) (by rw [hs, e8])
    · rw [hs]
      rw [e9, e8] at hd
      unfold jk_dg at hd
      show jw_W (js_S n) _ md_190 8 [some (.inr (.inr 103)), some (.inl i)] [.inl 0] τ _
      refine jw_W_if rfl (by unfold jw_rg; omega) (fun hc3 => ?_) (fun hc3 => ?_)
      · clear hc3
        refine jw_W_n 1 (i' := 40) (ls' := [some (.inr (.inr 103)), some (.inl i)]) (st' := [.inl 1]) rfl ?_
        refine jw_W_ir rfl ?_
        exact stop (by omega)
      · exact absurd hc3 (show ¬ ¬ ((0 : Int) = 0) by omega)
theorem jo_readsNumber {n : Nat} {σ : jw_H} {b : Int → Int} {d m i o : Int} {W c : jo_C} (hR : jo_rp b d m i o W c σ)  : jw_T (js_S n) 3 190 [.inr (.inr 103)] σ (fun r σ' => jk_f8 σ σ' ∧ ((r = some (.inl 0) ∧ (48 ≤ jk_h b m (jl_num b m 5 i 0).2 ∧ jk_h b m (jl_num b m 5 i 0).2 ≤ 57) ∧ σ' 103 10 = -1000 * 2 - (jl_num b m 5 i 0).2) ∨ (r = some (.inl 1) ∧ ¬ (48 ≤ jk_h b m (jl_num b m 5 i 0).2 ∧ jk_h b m (jl_num b m 5 i 0).2 ≤ 57) ∧ σ' 103 11 = (jl_num b m 5 i 0).1 ∧ σ' 103 8 = (jl_num b m 5 i 0).2))) := by
  refine jw_T_of (D := 2) (M := mm_190) rfl (Nat.le_of_ble_eq_true rfl) (ls0 := [some (.inr (.inr 103)), none]) rfl ?_ (by rintro _ _ ⟨-, ⟨rfl, -⟩ | ⟨rfl, -⟩⟩ <;> rfl)
  have hR0 := hR
  obtain ⟨ht, em, h240, h8, hi, h12, ho, h13, h14, hb, hc, hw⟩ := hR
  refine jw_W_n 1 (i' := 1) (ls' := [some (.inr (.inr 103)), none]) (st' := [.inr (.inr 103)]) rfl ?_
  refine jw_W_gf rfl rfl rfl ?_
  show jw_W (js_S n) _ md_190 2 [some (.inr (.inr 103)), none] [.inl (σ 103 8)] σ _
  refine jw_W_n 1 (i' := 3) (ls' := [some (.inr (.inr 103)), some (.inl (σ 103 8))]) (st' := []) rfl ?_
  rw [h8]
  refine jw_W_n 2 (i' := 5) (ls' := [some (.inr (.inr 103)), some (.inl i)]) (st' := [.inl 0, .inr (.inr 103)]) rfl ?_
  refine jw_W_pf (a := 0) rfl (by omega) rfl rfl rfl rfl rfl ?_
  obtain ⟨σ1, hs1⟩ : ∃ s : jw_H, s = jw_up σ 103 11 0 := ⟨_, rfl⟩
  show jw_W (js_S n) _ _ _ _ _ (jw_up σ 103 11 0) _
  rw [← hs1]
  have hf1 : jk_f8 σ σ1 := by rw [hs1]; exact jk_f8_up (jk_f8_rf σ) (by omega)
  have u8 : σ1 103 8 = i := by rw [hs1]; exact h8
  exact jo_number_loop hi.1 h240 (fun j j0 j1 => (ht.2.2 j j0 (by omega)).2.2) 5 (jk_tr_f8 ht hf1 (by omega)) (by rw [hf1.2 9 (by omega) (by omega) (by omega)]; exact em) u8 (by rw [hs1, jw_up_eq]) (by omega) (by omega) (by omega) (by omega) (by decide) hf1
theorem jo_has_to {σ : jw_H} {c : jo_C} (B : jo_C) : ∀ (U : jo_C), jo_ws σ c (U ++ B) → ∀ q, q ∈ U → ∃ j : Int, (B.length : Int) ≤ j ∧ j < ((U ++ B).length : Int) ∧ jw_div (σ 109 j) 1048576 = q.1
  | [], h, q, hq => absurd hq List.not_mem_nil
  | z :: U, h, q, hq => by
    have h1 : jo_ws σ c (z :: (U ++ B)) := h
    have hzr := h1.1.2.1
    have hl : ((z :: U ++ B).length : Int) = ((U ++ B).length : Int) + 1 := by
      rw [List.cons_append, List.length_cons]
      rfl
    have hl2 : ((U ++ B).length : Int) = (U.length : Int) + (B.length : Int) := by
      rw [List.length_append]
      rfl
    rcases List.mem_cons.mp hq with rfl | hq
    · refine ⟨((U ++ B).length : Int), by omega, by omega, ?_⟩
      rw [h1.1.1]
      exact (jl_word (by omega) h1.1.2.2.1).1
    · obtain ⟨j, j0, j1, e⟩ := jo_has_to B U h1.2 q hq
      exact ⟨j, j0, by omega, e⟩
theorem jo_has_of {σ : jw_H} {c : jo_C} (B : jo_C) : ∀ (U : jo_C), jo_ws σ c (U ++ B) → ∀ j : Int, (B.length : Int) ≤ j → j < ((U ++ B).length : Int) → jw_div (σ 109 j) 1048576 = 14 → jo_has U
  | [], h, j, j0, j1, e => by
    have : (([] ++ B : jo_C).length : Int) = (B.length : Int) := rfl
    omega
  | z :: U, h, j, j0, j1, e => by
    have h1 : jo_ws σ c (z :: (U ++ B)) := h
    have hzr := h1.1.2.1
    have hl : ((z :: U ++ B).length : Int) = ((U ++ B).length : Int) + 1 := by
      rw [List.cons_append, List.length_cons]
      rfl
    by_cases hj : j = ((U ++ B).length : Int)
    · rw [hj, h1.1.1, (jl_word (by omega) h1.1.2.2.1).1] at e
      exact ⟨z, List.mem_cons_self, e⟩
    · obtain ⟨q, hq, hq1⟩ := jo_has_of B U h1.2 j j0 (by omega) e
      exact ⟨q, List.mem_cons_of_mem _ hq, hq1⟩
theorem jo_has_loop {n : Nat} {σ : jw_H} {s : Int} (s0 : 0 ≤ s) (h14 : 0 ≤ σ 103 14 ∧ σ 103 14 ≤ 260) : ∀ (f : Nat) {j : Int}, s ≤ j → j + (f : Int) = σ 103 14 → (∀ j2, s ≤ j2 → j2 < j → jw_div (σ 109 j2) 1048576 ≠ 14) → jw_W (js_S n) 1 md_198 2 [some (.inr (.inr 103)), some (.inl s), some (.inl j)] [] σ (fun r σ' => (r = some (.inl 1) ∧ σ' = σ ∧ ∃ j, s ≤ j ∧ j < σ 103 14 ∧ jw_div (σ 109 j) 1048576 = 14) ∨ (r = some (.inl 0) ∧ σ' = σ ∧ ∀ j, s ≤ j → j < σ 103 14 → jw_div (σ 109 j) 1048576 ≠ 14))
  | f, j, sj, hk, hn => by
    have next : j < σ 103 14 → jw_div (σ 109 j) 1048576 ≠ 14 → jw_W (js_S n) 1 md_198 2 [some (.inr (.inr 103)), some (.inl s), some (.inl (j + 1))] [] σ (fun r σ' => (r = some (.inl 1) ∧ σ' = σ ∧ ∃ j, s ≤ j ∧ j < σ 103 14 ∧ jw_div (σ 109 j) 1048576 = 14) ∨ (r = some (.inl 0) ∧ σ' = σ ∧ ∀ j, s ≤ j → j < σ 103 14 → jw_div (σ 109 j) 1048576 ≠ 14)) := by
      intro hj he
      match f, hk with
      | 0, hk => omega
      | f + 1, hk => exact jo_has_loop s0 h14 f (by omega) (by omega) (fun j2 a1 a2 => by
          by_cases e : j2 = j
          · rw [e]
            exact he
          · exact hn j2 a1 (by omega))
    have hdr := jl_div_rg (σ 109 j) 1048576
    have hd1 := hdr.1
    unfold jw_rg at hd1
    clear hdr
    refine jw_W_n 2 (i' := 4) (ls' := [some (.inr (.inr 103)), some (.inl s), some (.inl j)]) (st' := [.inr (.inr 103), .inl j]) rfl ?_
    refine jw_W_gf rfl rfl rfl ?_
    show jw_W (js_S n) _ md_198 5 [some (.inr (.inr 103)), some (.inl s), some (.inl j)] [.inl (σ 103 14), .inl j] σ _
    refine jw_W_ic rfl (by unfold jw_rg; omega) (by unfold jw_rg; omega) (fun hc1 => ?_) (fun hc1 => ?_)
    · have hc1 : j ≥ (σ 103 14) := hc1
      refine jw_W_n 1 (i' := 19) (ls' := [some (.inr (.inr 103)), some (.inl s), some (.inl j)]) (st' := [.inl 0]) rfl ?_
      refine jw_W_ir rfl ?_
      exact .inr ⟨rfl, rfl, fun j2 a1 a2 => hn j2 a1 (by omega)⟩
    · have hc1 : ¬ (j ≥ (σ 103 14)) := hc1
      refine jw_W_n 1 (i' := 7) (ls' := [some (.inr (.inr 103)), some (.inl s), some (.inl j)]) (st' := [.inr (.inr 103)]) rfl ?_
      refine jw_W_gf rfl rfl rfl ?_
      show jw_W (js_S n) _ md_198 8 [some (.inr (.inr 103)), some (.inl s), some (.inl j)] [.inr (.inr 109)] σ _
      refine jw_W_n 1 (i' := 9) (ls' := [some (.inr (.inr 103)), some (.inl s), some (.inl j)]) (st' := [.inl j, .inr (.inr 109)]) rfl ?_
      refine jw_W_ia rfl rfl (by omega) (by omega) (by omega) ?_
      show jw_W (js_S n) _ md_198 10 [some (.inr (.inr 103)), some (.inl s), some (.inl j)] [.inl (σ 109 j)] σ _
      refine jw_W_ldc (z := 1048576) rfl rfl ?_
      refine jw_W_idiv rfl (by unfold jw_rg; omega) (by omega) ?_
      refine jw_W_n 1 (i' := 13) (ls' := [some (.inr (.inr 103)), some (.inl s), some (.inl j)]) (st' := [.inl 14, .inl (jw_div (σ 109 j) 1048576)]) rfl ?_
      refine jw_W_ic rfl (by unfold jw_rg; omega) (by unfold jw_rg; omega) (fun hc2 => ?_) (fun hc2 => ?_)
      · have hc2 : (jw_div (σ 109 j) 1048576) ≠ 14 := hc2
        refine jw_W_n 2 (i' := 2) (ls' := [some (.inr (.inr 103)), some (.inl s), some (.inl (j + 1))]) (st' := []) rfl ?_
        exact next (by omega) (by assumption)
      · have hc2 : (jw_div (σ 109 j) 1048576) = 14 := Classical.not_not.mp hc2
        refine jw_W_n 1 (i' := 15) (ls' := [some (.inr (.inr 103)), some (.inl s), some (.inl j)]) (st' := [.inl 1]) rfl ?_
        refine jw_W_ir rfl ?_
        exact .inl ⟨rfl, rfl, j, by omega, by omega, by assumption⟩
theorem jo_hasOpen {n : Nat} {σ : jw_H} {b : Int → Int} {d m i o : Int} {U B c : jo_C} (hR : jo_rp b d m i o (U ++ B) c σ)  : jw_T (js_S n) 2 198 [.inr (.inr 103), .inl ((B.length : Int))] σ (fun r σ' => (r = some (.inl 1) ∧ σ' = σ ∧ jo_has U) ∨ (r = some (.inl 0) ∧ σ' = σ ∧ ¬ jo_has U)) := by
  refine jw_T_of (D := 1) (M := mm_198) rfl (Nat.le_of_ble_eq_true rfl) (ls0 := [some (.inr (.inr 103)), some (.inl ((B.length : Int))), none]) rfl ?_ (by rintro _ _ (⟨rfl, -⟩ | ⟨rfl, -⟩) <;> rfl)
  have hR0 := hR
  obtain ⟨ht, em, h240, h8, hi, h12, ho, h13, h14, hb, hc, hw⟩ := hR
  have hl2 : ((U ++ B).length : Int) = (U.length : Int) + (B.length : Int) := by
    rw [List.length_append]
    rfl
  refine jw_W_n 2 (i' := 2) (ls' := [some (.inr (.inr 103)), some (.inl ((B.length : Int))), some (.inl ((B.length : Int)))]) (st' := []) rfl ?_
  exact jw_W_mono (jo_has_loop (s := (B.length : Int)) (by omega) (by omega) U.length (by omega) (by omega) (fun j2 a1 a2 => absurd a2 (by omega))) (fun r σ' hq => hq.elim (fun w => .inl ⟨w.1, w.2.1, by
    obtain ⟨j, j0, j1, e⟩ := w.2.2
    exact jo_has_of B U hw j j0 (by omega) e⟩) (fun w => .inr ⟨w.1, w.2.1, fun hu => by
    obtain ⟨q, hq, hq1⟩ := hu
    obtain ⟨j, j0, j1, e⟩ := jo_has_to B U hw q hq
    exact w.2.2 j j0 (by omega) (by omega)⟩))

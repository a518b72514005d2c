/-! ===== the law, the class: readRule ===== -/
/-- what reading a rule leaves -/
def jl_rr (b : Int → Int) (m : Int) (e : Int → Int) (σ σ' : jw_H) : Prop := jl_X b m e σ' ∧ jl_DR σ σ' ∧ (σ 43 2 = 0 → σ' 43 2 = (jl_rl b m (σ 42 7) (σ 43 0)).1 ∧ ((jl_rl b m (σ 42 7) (σ 43 0)).1 = 0 → σ' 43 0 = (jl_rl b m (σ 42 7) (σ 43 0)).2.1 ∧ σ' 42 7 = σ 42 7 + 1 ∧ (σ' 42 1, σ' 42 2, σ' 42 8) = jl_ef e (jl_rl b m (σ 42 7) (σ 43 0)).2.2 (σ 42 1, σ 42 2, σ 42 8))) ∧ (σ 42 8 = 0 ∨ σ 42 8 = 1 → σ' 42 8 = 0 ∨ σ' 42 8 = 1)
def jl_exq (b : Int → Int) (m x : Int) (σ σ' : jw_H) : Prop := (jk_h b m (σ 43 0) = x ∧ σ' 43 2 = σ 43 2 ∧ σ' 43 0 = σ 43 0 + 1) ∨ (jk_h b m (σ 43 0) ≠ x ∧ (σ 43 2 = 0 → σ' 43 2 = -1000 * 1 - σ 43 0))
/-- what stands before the opening parenthesis: value v -/
def jl_rv (b : Int → Int) (m : Int) (e : Int → Int) (V : jl_R) (x v : Int) (σ σ3 : jw_H) : Prop := jl_X b m e σ3 ∧ (∀ c, c ≠ 42 → c ≠ 43 → σ3 c = σ c) ∧ (∀ j, j ≠ 7 → j ≠ 9 → σ3 42 j = σ 42 j) ∧ σ3 42 7 = σ 42 7 + 1 ∧ σ3 42 9 = 0 ∧ σ 43 0 ≤ σ3 43 0 ∧ σ3 43 2 = V.1 ∧ (V.1 = 0 → σ3 43 0 = V.2.1 ∧ (x = 118 → v = jl_rt e V.2.2))
theorem jl_rule_end {b : Int → Int} {m : Int} {e : Int → Int} {σ σ3 σ4 σ5 σ6 σ7 : jw_H} {V : jl_R} {x v c : Int} (hz : σ 43 2 = 0) (hx : jk_h b m (σ 43 0) = x) (hx2 : x = 118 ∨ x = 120) (h7 : ¬ (16 ≤ σ 42 7)) (h8 : σ 42 8 = 0 ∨ σ 42 8 = 1) (hV : jl_Vr b m x (σ 43 0) = V) (h3 : jl_rv b m e V x v σ σ3)
    (h4 : jl_E b m e σ3 σ4 ∧ ((jk_h b m (σ3 43 0) = 40 ∧ σ4 43 2 = σ3 43 2 ∧ σ4 43 0 = σ3 43 0 + 1) ∨ (jk_h b m (σ3 43 0) ≠ 40 ∧ (σ3 43 2 = 0 → σ4 43 2 = -1000 * 1 - σ3 43 0))))
    (h5 : jl_sw b m e jl_bV (jl_cnd b m (jl_T b m 5) (σ4 43 0)) 1 c σ4 σ5)
    (h6 : jl_E b m e σ5 σ6 ∧ ((jk_h b m (σ5 43 0) = 41 ∧ σ6 43 2 = σ5 43 2 ∧ σ6 43 0 = σ5 43 0 + 1) ∨ (jk_h b m (σ5 43 0) ≠ 41 ∧ (σ5 43 2 = 0 → σ6 43 2 = -1000 * 1 - σ5 43 0))))
    (hA : ((c = 0 ∨ σ6 42 9 ≠ 0) ∧ σ7 = σ6) ∨ ((c ≠ 0 ∧ σ6 42 9 = 0) ∧ ((x = 120 ∧ σ7 = jw_up σ6 42 2 1) ∨ (x ≠ 120 ∧ σ6 42 8 = 0 ∧ σ7 = jw_up (jw_up σ6 42 8 1) 42 1 (jl_cl v)) ∨ (x ≠ 120 ∧ σ6 42 8 ≠ 0 ∧ σ7 = σ6)))) : jl_rr b m e σ σ7 := by
  obtain ⟨hX3, c3, j3, e37, e39, a3, v1, v2⟩ := h3
  have st4 := h4.1.2.1.2.2.1
  have st5 := h5.2.2.1.2.2.1
  have st6 := h6.1.2.1.2.2.1
  have hX6 := h6.1.1
  have m4 := h4.1.2.1.2.2.2
  have m5 := h5.2.2.1.2.2.2
  have m6 := h6.1.2.1.2.2.2
  have c6 : ∀ c, c ≠ 42 → c ≠ 43 → σ6 c = σ c := fun c d1 d2 => by rw [h6.1.2.1.1 c d1 d2, h5.2.2.1.1 c d1 d2, h4.1.2.1.1 c d1 d2, c3 c d1 d2]
  have j6 : ∀ j, j ≠ 7 → j ≠ 9 → σ6 42 j = σ 42 j := fun j d1 d2 => by rw [h6.1.2.1.2.1 j d2, h5.2.2.1.2.1 j d2, h4.1.2.1.2.1 j d2, j3 j d1 d2]
  have e67 : σ6 42 7 = σ 42 7 + 1 := by rw [h6.1.2.1.2.1 7 (by omega), h5.2.2.1.2.1 7 (by omega), h4.1.2.1.2.1 7 (by omega), e37]
  have hX7 : jl_X b m e σ7 := by
    rcases hA with ⟨-, h⟩ | ⟨-, ⟨-, h⟩ | ⟨-, -, h⟩ | ⟨-, -, h⟩⟩
    · rw [h]; exact hX6
    · rw [h]; exact jl_X_f hX6 (by omega)
    · rw [h]; exact jl_X_f (jl_X_f hX6 (by omega)) (by omega)
    · rw [h]; exact hX6
  have c7 : ∀ c, c ≠ 42 → σ7 c = σ6 c := fun c d => by
    rcases hA with ⟨-, h⟩ | ⟨-, ⟨-, h⟩ | ⟨-, -, h⟩ | ⟨-, -, h⟩⟩ <;> rw [h]
    · rw [jw_up_out _ _ _ d]
    · rw [jw_up_out _ _ _ d, jw_up_out _ _ _ d]
  have j7 : ∀ j, j ≠ 1 → j ≠ 2 → j ≠ 8 → σ7 42 j = σ6 42 j := fun j d1 d2 d3 => by
    rcases hA with ⟨-, h⟩ | ⟨-, ⟨-, h⟩ | ⟨-, -, h⟩ | ⟨-, -, h⟩⟩ <;> rw [h]
    · rw [jw_up_ne _ (by omega)]
    · rw [jw_up_ne _ (by omega), jw_up_ne _ (by omega)]
  have h87 : σ7 42 8 = 0 ∨ σ7 42 8 = 1 := by
    rcases hA with ⟨-, h⟩ | ⟨-, ⟨-, h⟩ | ⟨-, -, h⟩ | ⟨-, -, h⟩⟩ <;> rw [h]
    · rw [j6 8 (by omega) (by omega)]
      exact h8
    · rw [jw_up_ne _ (by omega), j6 8 (by omega) (by omega)]
      exact h8
    · rw [jw_up_ne _ (by omega), jw_up_eq]
      exact .inr rfl
    · rw [j6 8 (by omega) (by omega)]
      exact h8
  refine ⟨hX7, ⟨fun c d1 d2 => (c7 c d1).trans (c6 c d1 d2), fun j d1 d2 d3 d4 d5 => (j7 j d1 d2 d4).trans (j6 j d3 d5), fun hn => absurd hz hn, by rw [c7 43 (by omega)]; omega⟩, fun _ => ?_, fun _ => h87⟩
  rw [c7 43 (by omega)]
  subst hx
  have p3 := hX3.2.2.1
  by_cases g3 : V.1 = 0
  · obtain ⟨k1, k2⟩ := v2 g3
    rcases h4 with ⟨hE4, ⟨w1, w2, w3⟩ | ⟨w1, w2⟩⟩
    · rw [k1] at w1 w3
      have z4 : σ4 43 2 = 0 := by rw [w2, v1]; exact g3
      obtain ⟨f1, f2⟩ := h5.2.2.2.2 z4
      obtain ⟨C, hC⟩ : ∃ C, jl_cnd b m (jl_T b m 5) (V.2.1 + 1) = C := ⟨_, rfl⟩
      rw [w3, hC] at f1 f2
      have p5 := h5.2.1.2.2.1
      by_cases g5 : C.1 = 0
      · obtain ⟨r1, r2⟩ := f2 g5
        obtain ⟨d, d1, d2⟩ := r2 rfl
        rcases h6 with ⟨hE6, ⟨u1, u2, u3⟩ | ⟨u1, u2⟩⟩
        · rw [r1] at u1 u3
          rw [jl_rl_7 hx2 h7 hV g3 w1 hC g5 u1]
          refine ⟨by rw [u2, f1]; exact g5, fun _ => ⟨u3, (j7 7 (by omega) (by omega) (by omega)).trans e67, ?_⟩⟩
          have f9 : σ6 42 9 = 1 ↔ d := by
            rw [hE6.2.2, d2, hE4.2.2, e39]
            simp only [show ¬ ((0 : Int) = 1) by omega, false_or]
          have b6 := hX6.2.2.2.2.2.1
          have hc := h5.1
          unfold jl_bV at hc
          show _ = jl_ef e (jk_h b m (σ 43 0), V.2.2, C.2.2) (σ 42 1, σ 42 2, σ 42 8)
          unfold jl_ef
          by_cases hh : c = 1 ∧ σ6 42 9 = 0
          · have hr : jl_rt e C.2.2 = 1 := (jl_rt_v d1 (fun w => by have := f9.mpr w; omega)).trans hh.1
            rw [if_pos hr]
            rcases hA with ⟨q, -⟩ | ⟨-, ⟨q1, q2⟩ | ⟨q1, q2, q3⟩ | ⟨q1, q2, q3⟩⟩
            · omega
            · rw [if_pos q1, q2]
              show (jw_up σ6 42 2 1 42 1, jw_up σ6 42 2 1 42 2, jw_up σ6 42 2 1 42 8) = (σ 42 1, 1, σ 42 8)
              rw [jw_up_ne _ (by omega), jw_up_eq, jw_up_ne _ (by omega), j6 1 (by omega) (by omega), j6 8 (by omega) (by omega)]
            · rw [j6 8 (by omega) (by omega)] at q2
              rw [if_neg q1, if_pos q2, q3]
              show (jw_up (jw_up σ6 42 8 1) 42 1 (jl_cl v) 42 1, jw_up (jw_up σ6 42 8 1) 42 1 (jl_cl v) 42 2, jw_up (jw_up σ6 42 8 1) 42 1 (jl_cl v) 42 8) = (jl_cl (jl_rt e V.2.2), σ 42 2, 1)
              rw [jw_up_eq, jw_up_ne _ (by omega), jw_up_ne _ (by omega), jw_up_ne _ (by omega), jw_up_eq, j6 2 (by omega) (by omega), ← k2 (by omega)]
            · rw [j6 8 (by omega) (by omega)] at q2
              rw [if_neg q1, if_neg q2, q3, j6 1 (by omega) (by omega), j6 2 (by omega) (by omega), j6 8 (by omega) (by omega)]
          · have hr : jl_rt e C.2.2 ≠ 1 := by
              by_cases hd : d
              · rw [jl_rt_d d1 hd]
                omega
              · rw [jl_rt_v d1 hd]
                have : σ6 42 9 ≠ 1 := fun w => hd (f9.mp w)
                omega
            rw [if_neg hr]
            have e7 : σ7 = σ6 := by
              rcases hA with ⟨-, q⟩ | ⟨q, -⟩
              · exact q
              · omega
            rw [e7, j6 1 (by omega) (by omega), j6 2 (by omega) (by omega), j6 8 (by omega) (by omega)]
        · rw [r1] at u1 u2
          rw [jl_rl_6 hx2 h7 hV g3 w1 hC g5 u1]
          exact ⟨u2 (by rw [f1]; exact g5), fun hn => absurd hn (by show -1000 * 1 - _ ≠ 0; omega)⟩
      · rw [jl_rl_5 hx2 h7 hV g3 w1 hC g5]
        exact ⟨by rw [st6 (by rw [f1]; exact g5), f1], fun hn => absurd hn g5⟩
    · rw [k1] at w1 w2
      rw [jl_rl_4 hx2 h7 hV g3 w1]
      have w3 := w2 (by rw [v1]; exact g3)
      have e5 := st5 (by rw [w3]; omega)
      exact ⟨by rw [st6 (by rw [e5, w3]; omega), e5, w3], fun hn => absurd hn (by show -1000 * 1 - _ ≠ 0; omega)⟩
  · rw [jl_rl_3 hx2 h7 hV g3]
    have e4 := st4 (by rw [v1]; exact g3)
    have e5 := st5 (by rw [e4, v1]; exact g3)
    exact ⟨by rw [st6 (by rw [e5, e4, v1]; exact g3), e5, e4, v1], fun hn => absurd hn g3⟩
theorem jl_readRule {n : Nat} {σ : jw_H} {b : Int → Int} {m : Int} {e : Int → Int} (hX : jl_X b m e σ) (h7 : 0 ≤ σ 42 7 ∧ σ 42 7 ≤ 16) (h8 : σ 42 8 = 0 ∨ σ 42 8 = 1) : jw_T (js_S n) 28 47 [.inr (.inr 42)] σ (fun r σ' => r = none ∧ jl_rr b m e σ σ') := by
  refine jw_T_of (D := 27) (M := mm_47) rfl (Nat.le_of_ble_eq_true rfl) (ls0 := [some (.inr (.inr 42)), none, none, none]) rfl ?_ (by rintro _ _ ⟨rfl, -⟩; rfl)
  have rg8 : jw_rg (σ 42 8) := by unfold jw_rg; omega
  have rg0 : jw_rg 0 := by unfold jw_rg; omega
  have h4 := hX.2.2.1
  have h5 := hX.2.2.2.1
  have h3 := hX.2.1
  have h6 := hX.2.2.2.2.1
  have hh := jl_X_h hX h4.1
  have rgx : jw_rg (jk_h b m (σ 43 0)) := by unfold jw_rg; omega
  refine jw_W_n 1 (i' := 1) (ls' := [some (.inr (.inr 42)), none, none, none]) (st' := [.inr (.inr 42)]) rfl ?_
  refine jw_W_gf rfl rfl rfl ?_
  show jw_W (js_S n) _ md_47 2 [some (.inr (.inr 42)), none, none, none] [.inr (.inr 43)] σ _
  refine jw_W_call (as := [.inr (.inr 43)]) (rest := []) rfl rfl rfl rfl (Nat.le_of_ble_eq_true rfl) (.inr rfl) (jl_here hX) (by omega) ?_ rfl
  rintro r1 σz ⟨rfl, hs⟩
  rw [hs]
  show jw_W (js_S n) _ md_47 3 [some (.inr (.inr 42)), none, none, none] [.inl (jk_h b m (σ 43 0))] σ _
  refine jw_W_n 3 (i' := 6) (ls' := [some (.inr (.inr 42)), some (.inl (jk_h b m (σ 43 0))), none, none]) (st' := [.inl 118, .inl (jk_h b m (σ 43 0))]) rfl ?_
  refine jw_W_ic rfl (by unfold jw_rg; omega) (by unfold jw_rg; omega) (fun hc1 => ?_) (fun hc1 => ?_)
  · have hc1 : (jk_h b m (σ 43 0)) = 118 := hc1
    refine jw_W_n 1 (i' := 19) (ls' := [some (.inr (.inr 42)), some (.inl (jk_h b m (σ 43 0))), none, none]) (st' := [.inr (.inr 42)]) rfl ?_
    refine jw_W_gf rfl rfl rfl ?_
    show jw_W (js_S n) _ md_47 20 [some (.inr (.inr 42)), some (.inl (jk_h b m (σ 43 0))), none, none] [.inl (σ 42 7)] σ _
    refine jw_W_n 1 (i' := 21) (ls' := [some (.inr (.inr 42)), some (.inl (jk_h b m (σ 43 0))), none, none]) (st' := [.inl 16, .inl (σ 42 7)]) rfl ?_
    refine jw_W_ic rfl (by unfold jw_rg; omega) (by unfold jw_rg; omega) (fun hc2 => ?_) (fun hc2 => ?_)
    · have hc2 : (σ 42 7) < 16 := hc2
      refine jw_W_n 1 (i' := 30) (ls' := [some (.inr (.inr 42)), some (.inl (jk_h b m (σ 43 0))), none, none]) (st' := [.inr (.inr 42)]) rfl ?_
      refine jw_W_gf rfl rfl rfl ?_
      show jw_W (js_S n) _ md_47 31 [some (.inr (.inr 42)), some (.inl (jk_h b m (σ 43 0))), none, none] [.inr (.inr 43)] σ _
      refine jw_W_gf rfl rfl rfl ?_
      show jw_W (js_S n) _ md_47 32 [some (.inr (.inr 42)), some (.inl (jk_h b m (σ 43 0))), none, none] [.inl (σ 43 2)] σ _
      refine jw_W_if rfl (by unfold jw_rg; omega) (fun hc3 => ?_) (fun hc3 => ?_)
      · have hc3 : (σ 43 2) = 0 := hc3
        refine jw_W_n 1 (i' := 35) (ls' := [some (.inr (.inr 42)), some (.inl (jk_h b m (σ 43 0))), none, none]) (st' := [.inr (.inr 42)]) rfl ?_
        refine jw_W_gf rfl rfl rfl ?_
        show jw_W (js_S n) _ md_47 36 [some (.inr (.inr 42)), some (.inl (jk_h b m (σ 43 0))), none, none] [.inr (.inr 43)] σ _
        refine jw_W_n 1 (i' := 37) (ls' := [some (.inr (.inr 42)), some (.inl (jk_h b m (σ 43 0))), none, none]) (st' := [.inr (.inr 43), .inr (.inr 43)]) rfl ?_
        refine jw_W_gf rfl rfl rfl ?_
        show jw_W (js_S n) _ md_47 38 [some (.inr (.inr 42)), some (.inl (jk_h b m (σ 43 0))), none, none] [.inl (σ 43 0), .inr (.inr 43)] σ _
        refine jw_W_n 2 (i' := 40) (ls' := [some (.inr (.inr 42)), some (.inl (jk_h b m (σ 43 0))), none, none]) (st' := [.inl (σ 43 0 + 1), .inr (.inr 43)]) rfl ?_
        refine jw_W_pf (a := σ 43 0 + 1) rfl (by omega) rfl rfl rfl rfl rfl ?_
        refine jw_W_n 2 (i' := 43) (ls' := [some (.inr (.inr 42)), some (.inl (jk_h b m (σ 43 0))), none, none]) (st' := [.inr (.inr 42), .inr (.inr 42)]) rfl ?_
        refine jw_W_gf rfl rfl rfl ?_
        show jw_W (js_S n) _ md_47 44 [some (.inr (.inr 42)), some (.inl (jk_h b m (σ 43 0))), none, none] [.inl (σ 42 7), .inr (.inr 42)] ((jw_up σ 43 0 (σ 43 0 + 1))) _
        refine jw_W_n 2 (i' := 46) (ls' := [some (.inr (.inr 42)), some (.inl (jk_h b m (σ 43 0))), none, none]) (st' := [.inl (σ 42 7 + 1), .inr (.inr 42)]) rfl ?_
        refine jw_W_pf (a := σ 42 7 + 1) rfl (by omega) rfl rfl rfl rfl rfl ?_
        refine jw_W_n 2 (i' := 49) (ls' := [some (.inr (.inr 42)), some (.inl (jk_h b m (σ 43 0))), none, none]) (st' := [.inl 0, .inr (.inr 42)]) rfl ?_
        refine jw_W_pf (a := 0) rfl (by omega) rfl rfl rfl rfl rfl ?_
        obtain ⟨σ2, hs2⟩ : ∃ s : jw_H, s = jw_up (jw_up (jw_up σ 43 0 (σ 43 0 + 1)) 42 7 (σ 42 7 + 1)) 42 9 0 := ⟨_, rfl⟩
        show jw_W (js_S n) _ _ _ _ _ (jw_up (jw_up (jw_up σ 43 0 (σ 43 0 + 1)) 42 7 (σ 42 7 + 1)) 42 9 0) _
        rw [← hs2]
        have hz : σ 43 2 = 0 := by omega
        have hx2 : jk_h b m (σ 43 0) = 118 ∨ jk_h b m (σ 43 0) = 120 := by omega
        have h7n : ¬ (16 ≤ σ 42 7) := by omega
        have hEa := jl_E_to hX (i := σ 43 0 + 1) (by have := hh.2.2 (by omega); omega)
        have hX2 : jl_X b m e σ2 := by rw [hs2]; exact (jl_E9 (jl_X_f hEa.1 (by omega)) (.inl rfl)).1
        have e20 : σ2 43 0 = σ 43 0 + 1 := by rw [hs2, jw_up_out _ _ _ (by omega), jw_up_out _ _ _ (by omega), jw_up_eq]
        have e22 : σ2 43 2 = σ 43 2 := by rw [hs2, jw_up_out _ _ _ (by omega), jw_up_out _ _ _ (by omega), jw_up_ne _ (by omega)]
        have e29 : σ2 42 9 = 0 := by rw [hs2]; exact jw_up_eq _ _ _ _
        have e27 : σ2 42 7 = σ 42 7 + 1 := by rw [hs2, jw_up_ne _ (by omega), jw_up_eq]
        have j2 : ∀ j, j ≠ 7 → j ≠ 9 → σ2 42 j = σ 42 j := fun j d1 d2 => by rw [hs2, jw_up_ne _ (by omega), jw_up_ne _ (by omega), jw_up_out _ _ _ (by omega)]
        have c2 : ∀ c, c ≠ 42 → c ≠ 43 → σ2 c = σ c := fun c d1 d2 => by rw [hs2, jw_up_out _ _ _ d1, jw_up_out _ _ _ d1, jw_up_out _ _ _ d2]
        refine jw_W_n 2 (i' := 52) (ls' := [some (.inr (.inr 42)), some (.inl (jk_h b m (σ 43 0))), none, none]) (st' := [.inl 118, .inl (jk_h b m (σ 43 0))]) rfl ?_
        refine jw_W_ic rfl (by unfold jw_rg; omega) (by unfold jw_rg; omega) (fun hc4 => ?_) (fun hc4 => ?_)
        · have hc4 : (jk_h b m (σ 43 0)) ≠ 118 := hc4
          refine jw_W_n 3 (i' := 61) (ls' := [some (.inr (.inr 42)), some (.inl (jk_h b m (σ 43 0))), some (.inl 0), none]) (st' := [.inr (.inr 42)]) rfl ?_
          refine jw_W_gf rfl rfl rfl ?_
          show jw_W (js_S n) _ md_47 62 [some (.inr (.inr 42)), some (.inl (jk_h b m (σ 43 0))), some (.inl 0), none] [.inl (σ2 42 9)] σ2 _
          refine jw_W_if rfl (by unfold jw_rg; omega) (fun hc5 => ?_) (fun hc5 => ?_)
          · have hc5 : (σ2 42 9) = 0 := hc5
            refine jw_W_n 2 (i' := 67) (ls' := [some (.inr (.inr 42)), some (.inl (jk_h b m (σ 43 0))), some (.inl 0), none]) (st' := [.inl 0, .inr (.inr 42)]) rfl ?_
            refine jw_W_pf (a := 0) rfl (by omega) rfl rfl rfl rfl rfl ?_
            obtain ⟨σ8, hs8⟩ : ∃ s : jw_H, s = jw_up σ2 42 9 0 := ⟨_, rfl⟩
            show jw_W (js_S n) _ _ _ _ _ (jw_up σ2 42 9 0) _
            rw [← hs8]
            have hrv3 : jl_rv b m e (0, σ 43 0 + 1, []) (jk_h b m (σ 43 0)) 0 σ σ8 := by
              have k9 := jl_E9 hX2 (.inl rfl : (0 : Int) = 0 ∨ (0 : Int) = 1)
              rw [← hs8] at k9
              refine ⟨k9.1, fun c d1 d2 => ?_, fun j d1 d2 => ?_, ?_, ?_, ?_, ?_, fun _ => ⟨?_, fun hq => by omega⟩⟩
              · rw [hs8, jw_up_out _ _ _ d1, c2 c d1 d2]
              · rw [hs8, jw_up_ne _ (by omega), j2 j d1 d2]
              · rw [hs8, jw_up_ne _ (by omega), e27]
              · rw [hs8]; exact jw_up_eq _ _ _ _
              · rw [hs8, jw_up_out _ _ _ (by omega)]
                omega
              · rw [hs8, jw_up_out _ _ _ (by omega), e22]; exact hz
              · rw [hs8, jw_up_out _ _ _ (by omega)]; exact e20
            have hVr : jl_Vr b m (jk_h b m (σ 43 0)) (σ 43 0) = (0, σ 43 0 + 1, []) := if_neg (by omega)
            have hX8 := hrv3.1
            refine jw_W_n 1 (i' := 69) (ls' := [some (.inr (.inr 42)), some (.inl (jk_h b m (σ 43 0))), some (.inl 0), none]) (st' := [.inr (.inr 42)]) rfl ?_
            refine jw_W_gf rfl rfl rfl ?_
            show jw_W (js_S n) _ md_47 70 [some (.inr (.inr 42)), some (.inl (jk_h b m (σ 43 0))), some (.inl 0), none] [.inr (.inr 43)] σ8 _
            refine jw_W_n 1 (i' := 71) (ls' := [some (.inr (.inr 42)), some (.inl (jk_h b m (σ 43 0))), some (.inl 0), none]) (st' := [.inl 40, .inr (.inr 43)]) rfl ?_
            refine jw_W_call (as := [.inr (.inr 43), .inl 40]) (rest := []) rfl rfl rfl rfl (Nat.le_of_ble_eq_true rfl) (.inr rfl) (jl_expect hX8 (x := 40) (by omega)) (by omega) ?_ rfl
            rintro r1 σ4 ⟨rfl, hE4, h42⟩
            rename jw_H => σ4
            have hX4 := hE4.1
            have hx4 : jl_exq b m 40 σ8 σ4 := h42
            clear h42
            show jw_W (js_S n) _ md_47 72 [some (.inr (.inr 42)), some (.inl (jk_h b m (σ 43 0))), some (.inl 0), none] [] σ4 _
            refine jw_W_n 3 (i' := 75) (ls' := [some (.inr (.inr 42)), some (.inl (jk_h b m (σ 43 0))), some (.inl 0), none]) (st' := [.inl 1, .inl 1, .inr (.inr 42)]) rfl ?_
            refine jw_W_call (as := [.inr (.inr 42), .inl 1, .inl 1]) (rest := []) rfl rfl rfl rfl (Nat.le_of_ble_eq_true rfl) (.inr rfl) (jl_readCond σ4 1 hX4 (.inr rfl)) (by omega) ?_ rfl
            rintro r1 σ5 ⟨c, rfl, hc5⟩
            rename jw_H => σ5
            have hc5 : jl_sw b m e jl_bV (jl_cnd b m (jl_T b m 5) (σ4 43 0)) 1 c σ4 σ5 := hc5
            have rgc : 0 ≤ c ∧ c ≤ 1 := by rcases hc5.1 with u | u <;> rw [u] <;> decide
            have hX5 := hc5.2.1
            show jw_W (js_S n) _ md_47 76 [some (.inr (.inr 42)), some (.inl (jk_h b m (σ 43 0))), some (.inl 0), none] [.inl c] σ5 _
            refine jw_W_n 2 (i' := 78) (ls' := [some (.inr (.inr 42)), some (.inl (jk_h b m (σ 43 0))), some (.inl 0), some (.inl c)]) (st' := [.inr (.inr 42)]) rfl ?_
            refine jw_W_gf rfl rfl rfl ?_
            show jw_W (js_S n) _ md_47 79 [some (.inr (.inr 42)), some (.inl (jk_h b m (σ 43 0))), some (.inl 0), some (.inl c)] [.inr (.inr 43)] σ5 _
            refine jw_W_n 1 (i' := 80) (ls' := [some (.inr (.inr 42)), some (.inl (jk_h b m (σ 43 0))), some (.inl 0), some (.inl c)]) (st' := [.inl 41, .inr (.inr 43)]) rfl ?_
            refine jw_W_call (as := [.inr (.inr 43), .inl 41]) (rest := []) rfl rfl rfl rfl (Nat.le_of_ble_eq_true rfl) (.inr rfl) (jl_expect hX5 (x := 41) (by omega)) (by omega) ?_ rfl
            rintro r1 σ6 ⟨rfl, hE6, h62⟩
            rename jw_H => σ6
            have hX6 := hE6.1
            have hx6 : jl_exq b m 41 σ5 σ6 := h62
            clear h62
            have r69 : 0 ≤ σ6 42 9 ∧ σ6 42 9 ≤ 1 := by rcases hX6.2.2.2.2.2.1 with u | u <;> rw [u] <;> decide
            have e68 : σ6 42 8 = σ 42 8 := by rw [hE6.2.2, hc5.2.2.1.2.1 8 (by omega), hE4.2.2, hrv3.2.2.1 8 (by omega) (by omega)]
            show jw_W (js_S n) _ md_47 81 [some (.inr (.inr 42)), some (.inl (jk_h b m (σ 43 0))), some (.inl 0), some (.inl c)] [] σ6 _
            refine jw_W_n 1 (i' := 82) (ls' := [some (.inr (.inr 42)), some (.inl (jk_h b m (σ 43 0))), some (.inl 0), some (.inl c)]) (st' := [.inl c]) rfl ?_
            refine jw_W_if rfl (by unfold jw_rg; omega) (fun hc6 => ?_) (fun hc6 => ?_)
            · have hc6 : c = 0 := hc6
              refine jw_W_re rfl ?_
              exact ⟨rfl, jl_rule_end hz rfl hx2 h7n h8 hVr hrv3 ⟨hE4, hx4⟩ hc5 ⟨hE6, hx6⟩ (.inl ⟨.inl (by assumption), rfl⟩)⟩
            · have hc6 : ¬ (c = 0) := hc6
              refine jw_W_n 1 (i' := 84) (ls' := [some (.inr (.inr 42)), some (.inl (jk_h b m (σ 43 0))), some (.inl 0), some (.inl c)]) (st' := [.inr (.inr 42)]) rfl ?_
              refine jw_W_gf rfl rfl rfl ?_
              show jw_W (js_S n) _ md_47 85 [some (.inr (.inr 42)), some (.inl (jk_h b m (σ 43 0))), some (.inl 0), some (.inl c)] [.inl (σ6 42 9)] σ6 _
              refine jw_W_if rfl (by unfold jw_rg; omega) (fun hc7 => ?_) (fun hc7 => ?_)
              · have hc7 : (σ6 42 9) ≠ 0 := hc7
                refine jw_W_re rfl ?_
                exact ⟨rfl, jl_rule_end hz rfl hx2 h7n h8 hVr hrv3 ⟨hE4, hx4⟩ hc5 ⟨hE6, hx6⟩ (.inl ⟨.inr (by assumption), rfl⟩)⟩
              · have hc7 : (σ6 42 9) = 0 := Classical.not_not.mp hc7
                refine jw_W_n 3 (i' := 89) (ls' := [some (.inr (.inr 42)), some (.inl (jk_h b m (σ 43 0))), some (.inl 0), some (.inl c)]) (st' := [.inl 0, .inl (jk_h b m (σ 43 0)), .inr (.inr 42)]) rfl ?_
                refine jw_W_call (as := [.inr (.inr 42), .inl (jk_h b m (σ 43 0)), .inl 0]) (rest := []) rfl rfl rfl rfl (Nat.le_of_ble_eq_true rfl) (.inr rfl) (jl_apply rgx rg0 (by rw [e68]; exact rg8)) (by omega) ?_ rfl
                rintro r1 σ7 ⟨rfl, hA⟩
                rename jw_H => σ7
                show jw_W (js_S n) _ md_47 90 [some (.inr (.inr 42)), some (.inl (jk_h b m (σ 43 0))), some (.inl 0), some (.inl c)] [] σ7 _
                refine jw_W_re rfl ?_
                exact ⟨rfl, jl_rule_end hz rfl hx2 h7n h8 hVr hrv3 ⟨hE4, hx4⟩ hc5 ⟨hE6, hx6⟩ (.inr ⟨⟨by assumption, by assumption⟩, hA⟩)⟩
          · have hc5 : ¬ ((σ2 42 9) = 0) := hc5
            refine jw_W_n 4 (i' := 67) (ls' := [some (.inr (.inr 42)), some (.inl (jk_h b m (σ 43 0))), some (.inl 0), none]) (st' := [.inl 0, .inr (.inr 42)]) rfl ?_
            refine jw_W_pf (a := 0) rfl (by omega) rfl rfl rfl rfl rfl ?_
            obtain ⟨σ8, hs8⟩ : ∃ s : jw_H, s = jw_up σ2 42 9 0 := ⟨_, rfl⟩
            show jw_W (js_S n) _ _ _ _ _ (jw_up σ2 42 9 0) _
            rw [← hs8]
            have hrv3 : jl_rv b m e (0, σ 43 0 + 1, []) (jk_h b m (σ 43 0)) 0 σ σ8 := by
              have k9 := jl_E9 hX2 (.inl rfl : (0 : Int) = 0 ∨ (0 : Int) = 1)
              rw [← hs8] at k9
              refine ⟨k9.1, fun c d1 d2 => ?_, fun j d1 d2 => ?_, ?_, ?_, ?_, ?_, fun _ => ⟨?_, fun hq => by omega⟩⟩
              · rw [hs8, jw_up_out _ _ _ d1, c2 c d1 d2]
              · rw [hs8, jw_up_ne _ (by omega), j2 j d1 d2]
              · rw [hs8, jw_up_ne _ (by omega), e27]
              · rw [hs8]; exact jw_up_eq _ _ _ _
              · rw [hs8, jw_up_out _ _ _ (by omega)]
                omega
              · rw [hs8, jw_up_out _ _ _ (by omega), e22]; exact hz
              · rw [hs8, jw_up_out _ _ _ (by omega)]; exact e20
            have hVr : jl_Vr b m (jk_h b m (σ 43 0)) (σ 43 0) = (0, σ 43 0 + 1, []) := if_neg (by omega)
            have hX8 := hrv3.1
            refine jw_W_n 1 (i' := 69) (ls' := [some (.inr (.inr 42)), some (.inl (jk_h b m (σ 43 0))), some (.inl 0), none]) (st' := [.inr (.inr 42)]) rfl ?_
            refine jw_W_gf rfl rfl rfl ?_
            show jw_W (js_S n) _ md_47 70 [some (.inr (.inr 42)), some (.inl (jk_h b m (σ 43 0))), some (.inl 0), none] [.inr (.inr 43)] σ8 _
            refine jw_W_n 1 (i' := 71) (ls' := [some (.inr (.inr 42)), some (.inl (jk_h b m (σ 43 0))), some (.inl 0), none]) (st' := [.inl 40, .inr (.inr 43)]) rfl ?_
            refine jw_W_call (as := [.inr (.inr 43), .inl 40]) (rest := []) rfl rfl rfl rfl (Nat.le_of_ble_eq_true rfl) (.inr rfl) (jl_expect hX8 (x := 40) (by omega)) (by omega) ?_ rfl
            rintro r1 σ4 ⟨rfl, hE4, h42⟩
            rename jw_H => σ4
            have hX4 := hE4.1
            have hx4 : jl_exq b m 40 σ8 σ4 := h42
            clear h42
            show jw_W (js_S n) _ md_47 72 [some (.inr (.inr 42)), some (.inl (jk_h b m (σ 43 0))), some (.inl 0), none] [] σ4 _
            refine jw_W_n 3 (i' := 75) (ls' := [some (.inr (.inr 42)), some (.inl (jk_h b m (σ 43 0))), some (.inl 0), none]) (st' := [.inl 1, .inl 1, .inr (.inr 42)]) rfl ?_
            refine jw_W_call (as := [.inr (.inr 42), .inl 1, .inl 1]) (rest := []) rfl rfl rfl rfl (Nat.le_of_ble_eq_true rfl) (.inr rfl) (jl_readCond σ4 1 hX4 (.inr rfl)) (by omega) ?_ rfl
            rintro r1 σ5 ⟨c, rfl, hc5⟩
            rename jw_H => σ5
            have hc5 : jl_sw b m e jl_bV (jl_cnd b m (jl_T b m 5) (σ4 43 0)) 1 c σ4 σ5 := hc5
            have rgc : 0 ≤ c ∧ c ≤ 1 := by rcases hc5.1 with u | u <;> rw [u] <;> decide
            have hX5 := hc5.2.1
            show jw_W (js_S n) _ md_47 76 [some (.inr (.inr 42)), some (.inl (jk_h b m (σ 43 0))), some (.inl 0), none] [.inl c] σ5 _
            refine jw_W_n 2 (i' := 78) (ls' := [some (.inr (.inr 42)), some (.inl (jk_h b m (σ 43 0))), some (.inl 0), some (.inl c)]) (st' := [.inr (.inr 42)]) rfl ?_
            refine jw_W_gf rfl rfl rfl ?_
            show jw_W (js_S n) _ md_47 79 [some (.inr (.inr 42)), some (.inl (jk_h b m (σ 43 0))), some (.inl 0), some (.inl c)] [.inr (.inr 43)] σ5 _
            refine jw_W_n 1 (i' := 80) (ls' := [some (.inr (.inr 42)), some (.inl (jk_h b m (σ 43 0))), some (.inl 0), some (.inl c)]) (st' := [.inl 41, .inr (.inr 43)]) rfl ?_
            refine jw_W_call (as := [.inr (.inr 43), .inl 41]) (rest := []) rfl rfl rfl rfl (Nat.le_of_ble_eq_true rfl) (.inr rfl) (jl_expect hX5 (x := 41) (by omega)) (by omega) ?_ rfl
            rintro r1 σ6 ⟨rfl, hE6, h62⟩
            rename jw_H => σ6
            have hX6 := hE6.1
            have hx6 : jl_exq b m 41 σ5 σ6 := h62
            clear h62
            have r69 : 0 ≤ σ6 42 9 ∧ σ6 42 9 ≤ 1 := by rcases hX6.2.2.2.2.2.1 with u | u <;> rw [u] <;> decide
            have e68 : σ6 42 8 = σ 42 8 := by rw [hE6.2.2, hc5.2.2.1.2.1 8 (by omega), hE4.2.2, hrv3.2.2.1 8 (by omega) (by omega)]
            show jw_W (js_S n) _ md_47 81 [some (.inr (.inr 42)), some (.inl (jk_h b m (σ 43 0))), some (.inl 0), some (.inl c)] [] σ6 _
            refine jw_W_n 1 (i' := 82) (ls' := [some (.inr (.inr 42)), some (.inl (jk_h b m (σ 43 0))), some (.inl 0), some (.inl c)]) (st' := [.inl c]) rfl ?_
            refine jw_W_if rfl (by unfold jw_rg; omega) (fun hc8 => ?_) (fun hc8 => ?_)
            · have hc8 : c = 0 := hc8
              refine jw_W_re rfl ?_
              exact ⟨rfl, jl_rule_end hz rfl hx2 h7n h8 hVr hrv3 ⟨hE4, hx4⟩ hc5 ⟨hE6, hx6⟩ (.inl ⟨.inl (by assumption), rfl⟩)⟩
            · have hc8 : ¬ (c = 0) := hc8
              refine jw_W_n 1 (i' := 84) (ls' := [some (.inr (.inr 42)), some (.inl (jk_h b m (σ 43 0))), some (.inl 0), some (.inl c)]) (st' := [.inr (.inr 42)]) rfl ?_
              refine jw_W_gf rfl rfl rfl ?_
              show jw_W (js_S n) _ md_47 85 [some (.inr (.inr 42)), some (.inl (jk_h b m (σ 43 0))), some (.inl 0), some (.inl c)] [.inl (σ6 42 9)] σ6 _
              refine jw_W_if rfl (by unfold jw_rg; omega) (fun hc9 => ?_) (fun hc9 => ?_)
              · have hc9 : (σ6 42 9) ≠ 0 := hc9
                refine jw_W_re rfl ?_
                exact ⟨rfl, jl_rule_end hz rfl hx2 h7n h8 hVr hrv3 ⟨hE4, hx4⟩ hc5 ⟨hE6, hx6⟩ (.inl ⟨.inr (by assumption), rfl⟩)⟩
              · have hc9 : (σ6 42 9) = 0 := Classical.not_not.mp hc9
                refine jw_W_n 3 (i' := 89) (ls' := [some (.inr (.inr 42)), some (.inl (jk_h b m (σ 43 0))), some (.inl 0), some (.inl c)]) (st' := [.inl 0, .inl (jk_h b m (σ 43 0)), .inr (.inr 42)]) rfl ?_
                refine jw_W_call (as := [.inr (.inr 42), .inl (jk_h b m (σ 43 0)), .inl 0]) (rest := []) rfl rfl rfl rfl (Nat.le_of_ble_eq_true rfl) (.inr rfl) (jl_apply rgx rg0 (by rw [e68]; exact rg8)) (by omega) ?_ rfl
                rintro r1 σ7 ⟨rfl, hA⟩
                rename jw_H => σ7
                show jw_W (js_S n) _ md_47 90 [some (.inr (.inr 42)), some (.inl (jk_h b m (σ 43 0))), some (.inl 0), some (.inl c)] [] σ7 _
                refine jw_W_re rfl ?_
                exact ⟨rfl, jl_rule_end hz rfl hx2 h7n h8 hVr hrv3 ⟨hE4, hx4⟩ hc5 ⟨hE6, hx6⟩ (.inr ⟨⟨by assumption, by assumption⟩, hA⟩)⟩
        · have hc4 : (jk_h b m (σ 43 0)) = 118 := Classical.not_not.mp hc4
          refine jw_W_n 3 (i' := 56) (ls' := [some (.inr (.inr 42)), some (.inl (jk_h b m (σ 43 0))), none, none]) (st' := [.inl 1, .inl 0, .inr (.inr 42)]) rfl ?_
          refine jw_W_call (as := [.inr (.inr 42), .inl 0, .inl 1]) (rest := []) rfl rfl rfl rfl (Nat.le_of_ble_eq_true rfl) (.inr rfl) (jl_readSum 6 (by omega) (by omega) σ2 1 hX2 (.inr rfl)) (by omega) ?_ rfl
          rintro r1 σ3 ⟨v, rfl, hv⟩
          rename jw_H => σ3
          have hv : jl_sw b m e jl_rgV (jl_S b m 6 (σ2 43 0)) 1 v σ2 σ3 := hv
          have hrv : jw_rg v := hv.1
          have r39 : 0 ≤ σ3 42 9 ∧ σ3 42 9 ≤ 1 := by rcases hv.2.1.2.2.2.2.2.1 with u | u <;> rw [u] <;> decide
          show jw_W (js_S n) _ md_47 57 [some (.inr (.inr 42)), some (.inl (jk_h b m (σ 43 0))), none, none] [.inl v] σ3 _
          refine jw_W_n 3 (i' := 61) (ls' := [some (.inr (.inr 42)), some (.inl (jk_h b m (σ 43 0))), some (.inl v), none]) (st' := [.inr (.inr 42)]) rfl ?_
          refine jw_W_gf rfl rfl rfl ?_
          show jw_W (js_S n) _ md_47 62 [some (.inr (.inr 42)), some (.inl (jk_h b m (σ 43 0))), some (.inl v), none] [.inl (σ3 42 9)] σ3 _
          refine jw_W_if rfl (by unfold jw_rg; omega) (fun hc10 => ?_) (fun hc10 => ?_)
          · have hc10 : (σ3 42 9) = 0 := hc10
            refine jw_W_n 2 (i' := 67) (ls' := [some (.inr (.inr 42)), some (.inl (jk_h b m (σ 43 0))), some (.inl v), none]) (st' := [.inl 0, .inr (.inr 42)]) rfl ?_
            refine jw_W_pf (a := 0) rfl (by omega) rfl rfl rfl rfl rfl ?_
            obtain ⟨σ8, hs8⟩ : ∃ s : jw_H, s = jw_up σ3 42 9 0 := ⟨_, rfl⟩
            show jw_W (js_S n) _ _ _ _ _ (jw_up σ3 42 9 0) _
            rw [← hs8]
            obtain ⟨q1, q2⟩ := hv.2.2.2.2 (e22.trans hz)
            rw [e20] at q1 q2
            have hrv3 : jl_rv b m e (jl_S b m 6 (σ 43 0 + 1)) (jk_h b m (σ 43 0)) v σ σ8 := by
              have k9 := jl_E9 hv.2.1 (.inl rfl : (0 : Int) = 0 ∨ (0 : Int) = 1)
              rw [← hs8] at k9
              have d9 := hv.2.2.1
              refine ⟨k9.1, fun c d1 d2 => ?_, fun j d1 d2 => ?_, ?_, ?_, ?_, ?_, fun hq => ⟨?_, fun _ => ?_⟩⟩
              · rw [hs8, jw_up_out _ _ _ d1, d9.1 c d1 d2, c2 c d1 d2]
              · rw [hs8, jw_up_ne _ (by omega), d9.2.1 j d2, j2 j d1 d2]
              · rw [hs8, jw_up_ne _ (by omega), d9.2.1 7 (by omega), e27]
              · rw [hs8]; exact jw_up_eq _ _ _ _
              · have := d9.2.2.2
                rw [hs8, jw_up_out _ _ _ (by omega)]
                omega
              · rw [hs8, jw_up_out _ _ _ (by omega)]; exact q1
              · rw [hs8, jw_up_out _ _ _ (by omega)]; exact (q2 hq).1
              · obtain ⟨d, d1, d2⟩ := (q2 hq).2 rfl
                rw [e29] at d2
                by_cases hd : d
                · have := d2.mpr (.inr hd); omega
                · exact (jl_rt_v d1 hd).symm
            have hVr : jl_Vr b m (jk_h b m (σ 43 0)) (σ 43 0) = jl_S b m 6 (σ 43 0 + 1) := if_pos (by omega)
            have hX8 := hrv3.1
            refine jw_W_n 1 (i' := 69) (ls' := [some (.inr (.inr 42)), some (.inl (jk_h b m (σ 43 0))), some (.inl v), none]) (st' := [.inr (.inr 42)]) rfl ?_
            refine jw_W_gf rfl rfl rfl ?_
            show jw_W (js_S n) _ md_47 70 [some (.inr (.inr 42)), some (.inl (jk_h b m (σ 43 0))), some (.inl v), none] [.inr (.inr 43)] σ8 _
            refine jw_W_n 1 (i' := 71) (ls' := [some (.inr (.inr 42)), some (.inl (jk_h b m (σ 43 0))), some (.inl v), none]) (st' := [.inl 40, .inr (.inr 43)]) rfl ?_
            refine jw_W_call (as := [.inr (.inr 43), .inl 40]) (rest := []) rfl rfl rfl rfl (Nat.le_of_ble_eq_true rfl) (.inr rfl) (jl_expect hX8 (x := 40) (by omega)) (by omega) ?_ rfl
            rintro r1 σ4 ⟨rfl, hE4, h42⟩
            rename jw_H => σ4
            have hX4 := hE4.1
            have hx4 : jl_exq b m 40 σ8 σ4 := h42
            clear h42
            show jw_W (js_S n) _ md_47 72 [some (.inr (.inr 42)), some (.inl (jk_h b m (σ 43 0))), some (.inl v), none] [] σ4 _
            refine jw_W_n 3 (i' := 75) (ls' := [some (.inr (.inr 42)), some (.inl (jk_h b m (σ 43 0))), some (.inl v), none]) (st' := [.inl 1, .inl 1, .inr (.inr 42)]) rfl ?_
            refine jw_W_call (as := [.inr (.inr 42), .inl 1, .inl 1]) (rest := []) rfl rfl rfl rfl (Nat.le_of_ble_eq_true rfl) (.inr rfl) (jl_readCond σ4 1 hX4 (.inr rfl)) (by omega) ?_ rfl
            rintro r1 σ5 ⟨c, rfl, hc5⟩
            rename jw_H => σ5
            have hc5 : jl_sw b m e jl_bV (jl_cnd b m (jl_T b m 5) (σ4 43 0)) 1 c σ4 σ5 := hc5
            have rgc : 0 ≤ c ∧ c ≤ 1 := by rcases hc5.1 with u | u <;> rw [u] <;> decide
            have hX5 := hc5.2.1
            show jw_W (js_S n) _ md_47 76 [some (.inr (.inr 42)), some (.inl (jk_h b m (σ 43 0))), some (.inl v), none] [.inl c] σ5 _
            refine jw_W_n 2 (i' := 78) (ls' := [some (.inr (.inr 42)), some (.inl (jk_h b m (σ 43 0))), some (.inl v), some (.inl c)]) (st' := [.inr (.inr 42)]) rfl ?_
            refine jw_W_gf rfl rfl rfl ?_
            show jw_W (js_S n) _ md_47 79 [some (.inr (.inr 42)), some (.inl (jk_h b m (σ 43 0))), some (.inl v), some (.inl c)] [.inr (.inr 43)] σ5 _
            refine jw_W_n 1 (i' := 80) (ls' := [some (.inr (.inr 42)), some (.inl (jk_h b m (σ 43 0))), some (.inl v), some (.inl c)]) (st' := [.inl 41, .inr (.inr 43)]) rfl ?_
            refine jw_W_call (as := [.inr (.inr 43), .inl 41]) (rest := []) rfl rfl rfl rfl (Nat.le_of_ble_eq_true rfl) (.inr rfl) (jl_expect hX5 (x := 41) (by omega)) (by omega) ?_ rfl
            rintro r1 σ6 ⟨rfl, hE6, h62⟩
            rename jw_H => σ6
            have hX6 := hE6.1
            have hx6 : jl_exq b m 41 σ5 σ6 := h62
            clear h62
            have r69 : 0 ≤ σ6 42 9 ∧ σ6 42 9 ≤ 1 := by rcases hX6.2.2.2.2.2.1 with u | u <;> rw [u] <;> decide
            have e68 : σ6 42 8 = σ 42 8 := by rw [hE6.2.2, hc5.2.2.1.2.1 8 (by omega), hE4.2.2, hrv3.2.2.1 8 (by omega) (by omega)]
            show jw_W (js_S n) _ md_47 81 [some (.inr (.inr 42)), some (.inl (jk_h b m (σ 43 0))), some (.inl v), some (.inl c)] [] σ6 _
            refine jw_W_n 1 (i' := 82) (ls' := [some (.inr (.inr 42)), some (.inl (jk_h b m (σ 43 0))), some (.inl v), some (.inl c)]) (st' := [.inl c]) rfl ?_
            refine jw_W_if rfl (by unfold jw_rg; omega) (fun hc11 => ?_) (fun hc11 => ?_)
            · have hc11 : c = 0 := hc11
              refine jw_W_re rfl ?_
              exact ⟨rfl, jl_rule_end hz rfl hx2 h7n h8 hVr hrv3 ⟨hE4, hx4⟩ hc5 ⟨hE6, hx6⟩ (.inl ⟨.inl (by assumption), rfl⟩)⟩
            · have hc11 : ¬ (c = 0) := hc11
              refine jw_W_n 1 (i' := 84) (ls' := [some (.inr (.inr 42)), some (.inl (jk_h b m (σ 43 0))), some (.inl v), some (.inl c)]) (st' := [.inr (.inr 42)]) rfl ?_
              refine jw_W_gf rfl rfl rfl ?_
              show jw_W (js_S n) _ md_47 85 [some (.inr (.inr 42)), some (.inl (jk_h b m (σ 43 0))), some (.inl v), some (.inl c)] [.inl (σ6 42 9)] σ6 _
              refine jw_W_if rfl (by unfold jw_rg; omega) (fun hc12 => ?_) (fun hc12 => ?_)
              · have hc12 : (σ6 42 9) ≠ 0 := hc12
                refine jw_W_re rfl ?_
                exact ⟨rfl, jl_rule_end hz rfl hx2 h7n h8 hVr hrv3 ⟨hE4, hx4⟩ hc5 ⟨hE6, hx6⟩ (.inl ⟨.inr (by assumption), rfl⟩)⟩
              · have hc12 : (σ6 42 9) = 0 := Classical.not_not.mp hc12
                refine jw_W_n 3 (i' := 89) (ls' := [some (.inr (.inr 42)), some (.inl (jk_h b m (σ 43 0))), some (.inl v), some (.inl c)]) (st' := [.inl v, .inl (jk_h b m (σ 43 0)), .inr (.inr 42)]) rfl ?_
                refine jw_W_call (as := [.inr (.inr 42), .inl (jk_h b m (σ 43 0)), .inl v]) (rest := []) rfl rfl rfl rfl (Nat.le_of_ble_eq_true rfl) (.inr rfl) (jl_apply rgx hrv (by rw [e68]; exact rg8)) (by omega) ?_ rfl
                rintro r1 σ7 ⟨rfl, hA⟩
                rename jw_H => σ7
                show jw_W (js_S n) _ md_47 90 [some (.inr (.inr 42)), some (.inl (jk_h b m (σ 43 0))), some (.inl v), some (.inl c)] [] σ7 _
                refine jw_W_re rfl ?_
                exact ⟨rfl, jl_rule_end hz rfl hx2 h7n h8 hVr hrv3 ⟨hE4, hx4⟩ hc5 ⟨hE6, hx6⟩ (.inr ⟨⟨by assumption, by assumption⟩, hA⟩)⟩
          · have hc10 : ¬ ((σ3 42 9) = 0) := hc10
            refine jw_W_n 4 (i' := 67) (ls' := [some (.inr (.inr 42)), some (.inl (jk_h b m (σ 43 0))), some (.inl 0), none]) (st' := [.inl 0, .inr (.inr 42)]) rfl ?_
            refine jw_W_pf (a := 0) rfl (by omega) rfl rfl rfl rfl rfl ?_
            obtain ⟨σ8, hs8⟩ : ∃ s : jw_H, s = jw_up σ3 42 9 0 := ⟨_, rfl⟩
            show jw_W (js_S n) _ _ _ _ _ (jw_up σ3 42 9 0) _
            rw [← hs8]
            obtain ⟨q1, q2⟩ := hv.2.2.2.2 (e22.trans hz)
            rw [e20] at q1 q2
            have hrv3 : jl_rv b m e (jl_S b m 6 (σ 43 0 + 1)) (jk_h b m (σ 43 0)) 0 σ σ8 := by
              have k9 := jl_E9 hv.2.1 (.inl rfl : (0 : Int) = 0 ∨ (0 : Int) = 1)
              rw [← hs8] at k9
              have d9 := hv.2.2.1
              refine ⟨k9.1, fun c d1 d2 => ?_, fun j d1 d2 => ?_, ?_, ?_, ?_, ?_, fun hq => ⟨?_, fun _ => ?_⟩⟩
              · rw [hs8, jw_up_out _ _ _ d1, d9.1 c d1 d2, c2 c d1 d2]
              · rw [hs8, jw_up_ne _ (by omega), d9.2.1 j d2, j2 j d1 d2]
              · rw [hs8, jw_up_ne _ (by omega), d9.2.1 7 (by omega), e27]
              · rw [hs8]; exact jw_up_eq _ _ _ _
              · have := d9.2.2.2
                rw [hs8, jw_up_out _ _ _ (by omega)]
                omega
              · rw [hs8, jw_up_out _ _ _ (by omega)]; exact q1
              · rw [hs8, jw_up_out _ _ _ (by omega)]; exact (q2 hq).1
              · obtain ⟨d, d1, d2⟩ := (q2 hq).2 rfl
                rw [e29] at d2
                by_cases hd : d
                · rw [jl_rt_d d1 hd]
                · have hq9 : σ3 42 9 ≠ 1 := fun w => by rcases d2.mp w with u | u; omega; exact hd u
                  omega
            have hVr : jl_Vr b m (jk_h b m (σ 43 0)) (σ 43 0) = jl_S b m 6 (σ 43 0 + 1) := if_pos (by omega)
            have hX8 := hrv3.1
            refine jw_W_n 1 (i' := 69) (ls' := [some (.inr (.inr 42)), some (.inl (jk_h b m (σ 43 0))), some (.inl 0), none]) (st' := [.inr (.inr 42)]) rfl ?_
            refine jw_W_gf rfl rfl rfl ?_
            show jw_W (js_S n) _ md_47 70 [some (.inr (.inr 42)), some (.inl (jk_h b m (σ 43 0))), some (.inl 0), none] [.inr (.inr 43)] σ8 _
            refine jw_W_n 1 (i' := 71) (ls' := [some (.inr (.inr 42)), some (.inl (jk_h b m (σ 43 0))), some (.inl 0), none]) (st' := [.inl 40, .inr (.inr 43)]) rfl ?_
            refine jw_W_call (as := [.inr (.inr 43), .inl 40]) (rest := []) rfl rfl rfl rfl (Nat.le_of_ble_eq_true rfl) (.inr rfl) (jl_expect hX8 (x := 40) (by omega)) (by omega) ?_ rfl
            rintro r1 σ4 ⟨rfl, hE4, h42⟩
            rename jw_H => σ4
            have hX4 := hE4.1
            have hx4 : jl_exq b m 40 σ8 σ4 := h42
            clear h42
            show jw_W (js_S n) _ md_47 72 [some (.inr (.inr 42)), some (.inl (jk_h b m (σ 43 0))), some (.inl 0), none] [] σ4 _
            refine jw_W_n 3 (i' := 75) (ls' := [some (.inr (.inr 42)), some (.inl (jk_h b m (σ 43 0))), some (.inl 0), none]) (st' := [.inl 1, .inl 1, .inr (.inr 42)]) rfl ?_
            refine jw_W_call (as := [.inr (.inr 42), .inl 1, .inl 1]) (rest := []) rfl rfl rfl rfl (Nat.le_of_ble_eq_true rfl) (.inr rfl) (jl_readCond σ4 1 hX4 (.inr rfl)) (by omega) ?_ rfl
            rintro r1 σ5 ⟨c, rfl, hc5⟩
            rename jw_H => σ5
            have hc5 : jl_sw b m e jl_bV (jl_cnd b m (jl_T b m 5) (σ4 43 0)) 1 c σ4 σ5 := hc5
            have rgc : 0 ≤ c ∧ c ≤ 1 := by rcases hc5.1 with u | u <;> rw [u] <;> decide
            have hX5 := hc5.2.1
            show jw_W (js_S n) _ md_47 76 [some (.inr (.inr 42)), some (.inl (jk_h b m (σ 43 0))), some (.inl 0), none] [.inl c] σ5 _
            refine jw_W_n 2 (i' := 78) (ls' := [some (.inr (.inr 42)), some (.inl (jk_h b m (σ 43 0))), some (.inl 0), some (.inl c)]) (st' := [.inr (.inr 42)]) rfl ?_
            refine jw_W_gf rfl rfl rfl ?_
            show jw_W (js_S n) _ md_47 79 [some (.inr (.inr 42)), some (.inl (jk_h b m (σ 43 0))), some (.inl 0), some (.inl c)] [.inr (.inr 43)] σ5 _
            refine jw_W_n 1 (i' := 80) (ls' := [some (.inr (.inr 42)), some (.inl (jk_h b m (σ 43 0))), some (.inl 0), some (.inl c)]) (st' := [.inl 41, .inr (.inr 43)]) rfl ?_
            refine jw_W_call (as := [.inr (.inr 43), .inl 41]) (rest := []) rfl rfl rfl rfl (Nat.le_of_ble_eq_true rfl) (.inr rfl) (jl_expect hX5 (x := 41) (by omega)) (by omega) ?_ rfl
            rintro r1 σ6 ⟨rfl, hE6, h62⟩
            rename jw_H => σ6
            have hX6 := hE6.1
            have hx6 : jl_exq b m 41 σ5 σ6 := h62
            clear h62
            have r69 : 0 ≤ σ6 42 9 ∧ σ6 42 9 ≤ 1 := by rcases hX6.2.2.2.2.2.1 with u | u <;> rw [u] <;> decide
            have e68 : σ6 42 8 = σ 42 8 := by rw [hE6.2.2, hc5.2.2.1.2.1 8 (by omega), hE4.2.2, hrv3.2.2.1 8 (by omega) (by omega)]
            show jw_W (js_S n) _ md_47 81 [some (.inr (.inr 42)), some (.inl (jk_h b m (σ 43 0))), some (.inl 0), some (.inl c)] [] σ6 _
            refine jw_W_n 1 (i' := 82) (ls' := [some (.inr (.inr 42)), some (.inl (jk_h b m (σ 43 0))), some (.inl 0), some (.inl c)]) (st' := [.inl c]) rfl ?_
            refine jw_W_if rfl (by unfold jw_rg; omega) (fun hc13 => ?_) (fun hc13 => ?_)
            · have hc13 : c = 0 := hc13
              refine jw_W_re rfl ?_
              exact ⟨rfl, jl_rule_end hz rfl hx2 h7n h8 hVr hrv3 ⟨hE4, hx4⟩ hc5 ⟨hE6, hx6⟩ (.inl ⟨.inl (by assumption), rfl⟩)⟩
            · have hc13 : ¬ (c = 0) := hc13
              refine jw_W_n 1 (i' := 84) (ls' := [some (.inr (.inr 42)), some (.inl (jk_h b m (σ 43 0))), some (.inl 0), some (.inl c)]) (st' := [.inr (.inr 42)]) rfl ?_
              refine jw_W_gf rfl rfl rfl ?_
              show jw_W (js_S n) _ md_47 85 [some (.inr (.inr 42)), some (.inl (jk_h b m (σ 43 0))), some (.inl 0), some (.inl c)] [.inl (σ6 42 9)] σ6 _
              refine jw_W_if rfl (by unfold jw_rg; omega) (fun hc14 => ?_) (fun hc14 => ?_)
              · have hc14 : (σ6 42 9) ≠ 0 := hc14
                refine jw_W_re rfl ?_
                exact ⟨rfl, jl_rule_end hz rfl hx2 h7n h8 hVr hrv3 ⟨hE4, hx4⟩ hc5 ⟨hE6, hx6⟩ (.inl ⟨.inr (by assumption), rfl⟩)⟩
              · have hc14 : (σ6 42 9) = 0 := Classical.not_not.mp hc14
                refine jw_W_n 3 (i' := 89) (ls' := [some (.inr (.inr 42)), some (.inl (jk_h b m (σ 43 0))), some (.inl 0), some (.inl c)]) (st' := [.inl 0, .inl (jk_h b m (σ 43 0)), .inr (.inr 42)]) rfl ?_
                refine jw_W_call (as := [.inr (.inr 42), .inl (jk_h b m (σ 43 0)), .inl 0]) (rest := []) rfl rfl rfl rfl (Nat.le_of_ble_eq_true rfl) (.inr rfl) (jl_apply rgx rg0 (by rw [e68]; exact rg8)) (by omega) ?_ rfl
                rintro r1 σ7 ⟨rfl, hA⟩
                rename jw_H => σ7
                show jw_W (js_S n) _ md_47 90 [some (.inr (.inr 42)), some (.inl (jk_h b m (σ 43 0))), some (.inl 0), some (.inl c)] [] σ7 _
                refine jw_W_re rfl ?_
                exact ⟨rfl, jl_rule_end hz rfl hx2 h7n h8 hVr hrv3 ⟨hE4, hx4⟩ hc5 ⟨hE6, hx6⟩ (.inr ⟨⟨by assumption, by assumption⟩, hA⟩)⟩
      · have hc3 : ¬ ((σ 43 2) = 0) := hc3
        refine jw_W_re rfl ?_
        exact ⟨rfl, hX, jl_DR_rf σ, fun hz => by omega, fun h => h⟩
    · have hc2 : ¬ ((σ 42 7) < 16) := hc2
      refine jw_W_n 1 (i' := 23) (ls' := [some (.inr (.inr 42)), some (.inl (jk_h b m (σ 43 0))), none, none]) (st' := [.inr (.inr 42)]) rfl ?_
      refine jw_W_gf rfl rfl rfl ?_
      show jw_W (js_S n) _ md_47 24 [some (.inr (.inr 42)), some (.inl (jk_h b m (σ 43 0))), none, none] [.inr (.inr 43)] σ _
      refine jw_W_n 2 (i' := 26) (ls' := [some (.inr (.inr 42)), some (.inl (jk_h b m (σ 43 0))), none, none]) (st' := [.inr (.inr 42), .inl 4, .inr (.inr 43)]) rfl ?_
      refine jw_W_gf rfl rfl rfl ?_
      show jw_W (js_S n) _ md_47 27 [some (.inr (.inr 42)), some (.inl (jk_h b m (σ 43 0))), none, none] [.inr (.inr 43), .inl 4, .inr (.inr 43)] σ _
      refine jw_W_gf rfl rfl rfl ?_
      show jw_W (js_S n) _ md_47 28 [some (.inr (.inr 42)), some (.inl (jk_h b m (σ 43 0))), none, none] [.inl (σ 43 0), .inl 4, .inr (.inr 43)] σ _
      refine jw_W_call (as := [.inr (.inr 43), .inl 4, .inl (σ 43 0)]) (rest := []) rfl rfl rfl rfl (Nat.le_of_ble_eq_true rfl) (.inr rfl) (jl_fail hX (by omega) (by omega)) (by omega) ?_ rfl
      rintro r1 σz ⟨rfl, hE1, h10, h12⟩
      rename jw_H => σ1b
      have r12 := hE1.1.2.2.2.2.1
      have hbad : σ1b 43 2 ≠ 0 := by
        by_cases hz : σ 43 2 = 0
        · rw [h12 hz]
          omega
        · rw [hE1.2.1.2.2.1 hz]
          exact hz
      show jw_W (js_S n) _ md_47 29 [some (.inr (.inr 42)), some (.inl (jk_h b m (σ 43 0))), none, none] [] σ1b _
      refine jw_W_n 1 (i' := 30) (ls' := [some (.inr (.inr 42)), some (.inl (jk_h b m (σ 43 0))), none, none]) (st' := [.inr (.inr 42)]) rfl ?_
      refine jw_W_gf rfl rfl rfl ?_
      show jw_W (js_S n) _ md_47 31 [some (.inr (.inr 42)), some (.inl (jk_h b m (σ 43 0))), none, none] [.inr (.inr 43)] σ1b _
      refine jw_W_gf rfl rfl rfl ?_
      show jw_W (js_S n) _ md_47 32 [some (.inr (.inr 42)), some (.inl (jk_h b m (σ 43 0))), none, none] [.inl (σ1b 43 2)] σ1b _
      refine jw_W_if rfl (by unfold jw_rg; omega) (fun hc15 => ?_) (fun hc15 => ?_)
      · have hc15 : (σ1b 43 2) = 0 := hc15
        exfalso; omega
      · have hc15 : ¬ ((σ1b 43 2) = 0) := hc15
        refine jw_W_re rfl ?_
        refine ⟨rfl, hE1.1, jl_DR_E hE1, fun hz => ?_, fun h => by rw [hE1.2.2]; exact h⟩
        rw [jl_rl_2 (by omega) (by omega)]
        exact ⟨h12 hz, fun hn => absurd hn (by show -1000 * _ - σ 43 0 ≠ 0; omega)⟩
  · have hc1 : ¬ ((jk_h b m (σ 43 0)) = 118) := hc1
    refine jw_W_n 2 (i' := 9) (ls' := [some (.inr (.inr 42)), some (.inl (jk_h b m (σ 43 0))), none, none]) (st' := [.inl 120, .inl (jk_h b m (σ 43 0))]) rfl ?_
    refine jw_W_ic rfl (by unfold jw_rg; omega) (by unfold jw_rg; omega) (fun hc16 => ?_) (fun hc16 => ?_)
    · have hc16 : (jk_h b m (σ 43 0)) = 120 := hc16
      refine jw_W_n 1 (i' := 19) (ls' := [some (.inr (.inr 42)), some (.inl (jk_h b m (σ 43 0))), none, none]) (st' := [.inr (.inr 42)]) rfl ?_
      refine jw_W_gf rfl rfl rfl ?_
      show jw_W (js_S n) _ md_47 20 [some (.inr (.inr 42)), some (.inl (jk_h b m (σ 43 0))), none, none] [.inl (σ 42 7)] σ _
      refine jw_W_n 1 (i' := 21) (ls' := [some (.inr (.inr 42)), some (.inl (jk_h b m (σ 43 0))), none, none]) (st' := [.inl 16, .inl (σ 42 7)]) rfl ?_
      refine jw_W_ic rfl (by unfold jw_rg; omega) (by unfold jw_rg; omega) (fun hc17 => ?_) (fun hc17 => ?_)
      · have hc17 : (σ 42 7) < 16 := hc17
        refine jw_W_n 1 (i' := 30) (ls' := [some (.inr (.inr 42)), some (.inl (jk_h b m (σ 43 0))), none, none]) (st' := [.inr (.inr 42)]) rfl ?_
        refine jw_W_gf rfl rfl rfl ?_
        show jw_W (js_S n) _ md_47 31 [some (.inr (.inr 42)), some (.inl (jk_h b m (σ 43 0))), none, none] [.inr (.inr 43)] σ _
        refine jw_W_gf rfl rfl rfl ?_
        show jw_W (js_S n) _ md_47 32 [some (.inr (.inr 42)), some (.inl (jk_h b m (σ 43 0))), none, none] [.inl (σ 43 2)] σ _
        refine jw_W_if rfl (by unfold jw_rg; omega) (fun hc18 => ?_) (fun hc18 => ?_)
        · have hc18 : (σ 43 2) = 0 := hc18
          refine jw_W_n 1 (i' := 35) (ls' := [some (.inr (.inr 42)), some (.inl (jk_h b m (σ 43 0))), none, none]) (st' := [.inr (.inr 42)]) rfl ?_
          refine jw_W_gf rfl rfl rfl ?_
          show jw_W (js_S n) _ md_47 36 [some (.inr (.inr 42)), some (.inl (jk_h b m (σ 43 0))), none, none] [.inr (.inr 43)] σ _
          refine jw_W_n 1 (i' := 37) (ls' := [some (.inr (.inr 42)), some (.inl (jk_h b m (σ 43 0))), none, none]) (st' := [.inr (.inr 43), .inr (.inr 43)]) rfl ?_
          refine jw_W_gf rfl rfl rfl ?_
          show jw_W (js_S n) _ md_47 38 [some (.inr (.inr 42)), some (.inl (jk_h b m (σ 43 0))), none, none] [.inl (σ 43 0), .inr (.inr 43)] σ _
          refine jw_W_n 2 (i' := 40) (ls' := [some (.inr (.inr 42)), some (.inl (jk_h b m (σ 43 0))), none, none]) (st' := [.inl (σ 43 0 + 1), .inr (.inr 43)]) rfl ?_
          refine jw_W_pf (a := σ 43 0 + 1) rfl (by omega) rfl rfl rfl rfl rfl ?_
          refine jw_W_n 2 (i' := 43) (ls' := [some (.inr (.inr 42)), some (.inl (jk_h b m (σ 43 0))), none, none]) (st' := [.inr (.inr 42), .inr (.inr 42)]) rfl ?_
          refine jw_W_gf rfl rfl rfl ?_
          show jw_W (js_S n) _ md_47 44 [some (.inr (.inr 42)), some (.inl (jk_h b m (σ 43 0))), none, none] [.inl (σ 42 7), .inr (.inr 42)] ((jw_up σ 43 0 (σ 43 0 + 1))) _
          refine jw_W_n 2 (i' := 46) (ls' := [some (.inr (.inr 42)), some (.inl (jk_h b m (σ 43 0))), none, none]) (st' := [.inl (σ 42 7 + 1), .inr (.inr 42)]) rfl ?_
          refine jw_W_pf (a := σ 42 7 + 1) rfl (by omega) rfl rfl rfl rfl rfl ?_
          refine jw_W_n 2 (i' := 49) (ls' := [some (.inr (.inr 42)), some (.inl (jk_h b m (σ 43 0))), none, none]) (st' := [.inl 0, .inr (.inr 42)]) rfl ?_
          refine jw_W_pf (a := 0) rfl (by omega) rfl rfl rfl rfl rfl ?_
          obtain ⟨σ2, hs2⟩ : ∃ s : jw_H, s = jw_up (jw_up (jw_up σ 43 0 (σ 43 0 + 1)) 42 7 (σ 42 7 + 1)) 42 9 0 := ⟨_, rfl⟩
          show jw_W (js_S n) _ _ _ _ _ (jw_up (jw_up (jw_up σ 43 0 (σ 43 0 + 1)) 42 7 (σ 42 7 + 1)) 42 9 0) _
          rw [← hs2]
          have hz : σ 43 2 = 0 := by omega
          have hx2 : jk_h b m (σ 43 0) = 118 ∨ jk_h b m (σ 43 0) = 120 := by omega
          have h7n : ¬ (16 ≤ σ 42 7) := by omega
          have hEa := jl_E_to hX (i := σ 43 0 + 1) (by have := hh.2.2 (by omega); omega)
          have hX2 : jl_X b m e σ2 := by rw [hs2]; exact (jl_E9 (jl_X_f hEa.1 (by omega)) (.inl rfl)).1
          have e20 : σ2 43 0 = σ 43 0 + 1 := by rw [hs2, jw_up_out _ _ _ (by omega), jw_up_out _ _ _ (by omega), jw_up_eq]
          have e22 : σ2 43 2 = σ 43 2 := by rw [hs2, jw_up_out _ _ _ (by omega), jw_up_out _ _ _ (by omega), jw_up_ne _ (by omega)]
          have e29 : σ2 42 9 = 0 := by rw [hs2]; exact jw_up_eq _ _ _ _
          have e27 : σ2 42 7 = σ 42 7 + 1 := by rw [hs2, jw_up_ne _ (by omega), jw_up_eq]
          have j2 : ∀ j, j ≠ 7 → j ≠ 9 → σ2 42 j = σ 42 j := fun j d1 d2 => by rw [hs2, jw_up_ne _ (by omega), jw_up_ne _ (by omega), jw_up_out _ _ _ (by omega)]
          have c2 : ∀ c, c ≠ 42 → c ≠ 43 → σ2 c = σ c := fun c d1 d2 => by rw [hs2, jw_up_out _ _ _ d1, jw_up_out _ _ _ d1, jw_up_out _ _ _ d2]
          refine jw_W_n 2 (i' := 52) (ls' := [some (.inr (.inr 42)), some (.inl (jk_h b m (σ 43 0))), none, none]) (st' := [.inl 118, .inl (jk_h b m (σ 43 0))]) rfl ?_
          refine jw_W_ic rfl (by unfold jw_rg; omega) (by unfold jw_rg; omega) (fun hc19 => ?_) (fun hc19 => ?_)
          · have hc19 : (jk_h b m (σ 43 0)) ≠ 118 := hc19
            refine jw_W_n 3 (i' := 61) (ls' := [some (.inr (.inr 42)), some (.inl (jk_h b m (σ 43 0))), some (.inl 0), none]) (st' := [.inr (.inr 42)]) rfl ?_
            refine jw_W_gf rfl rfl rfl ?_
            show jw_W (js_S n) _ md_47 62 [some (.inr (.inr 42)), some (.inl (jk_h b m (σ 43 0))), some (.inl 0), none] [.inl (σ2 42 9)] σ2 _
            refine jw_W_if rfl (by unfold jw_rg; omega) (fun hc20 => ?_) (fun hc20 => ?_)
            · have hc20 : (σ2 42 9) = 0 := hc20
              refine jw_W_n 2 (i' := 67) (ls' := [some (.inr (.inr 42)), some (.inl (jk_h b m (σ 43 0))), some (.inl 0), none]) (st' := [.inl 0, .inr (.inr 42)]) rfl ?_
              refine jw_W_pf (a := 0) rfl (by omega) rfl rfl rfl rfl rfl ?_
              obtain ⟨σ8, hs8⟩ : ∃ s : jw_H, s = jw_up σ2 42 9 0 := ⟨_, rfl⟩
              show jw_W (js_S n) _ _ _ _ _ (jw_up σ2 42 9 0) _
              rw [← hs8]
              have hrv3 : jl_rv b m e (0, σ 43 0 + 1, []) (jk_h b m (σ 43 0)) 0 σ σ8 := by
                have k9 := jl_E9 hX2 (.inl rfl : (0 : Int) = 0 ∨ (0 : Int) = 1)
                rw [← hs8] at k9
                refine ⟨k9.1, fun c d1 d2 => ?_, fun j d1 d2 => ?_, ?_, ?_, ?_, ?_, fun _ => ⟨?_, fun hq => by omega⟩⟩
                · rw [hs8, jw_up_out _ _ _ d1, c2 c d1 d2]
                · rw [hs8, jw_up_ne _ (by omega), j2 j d1 d2]
                · rw [hs8, jw_up_ne _ (by omega), e27]
                · rw [hs8]; exact jw_up_eq _ _ _ _
                · rw [hs8, jw_up_out _ _ _ (by omega)]
                  omega
                · rw [hs8, jw_up_out _ _ _ (by omega), e22]; exact hz
                · rw [hs8, jw_up_out _ _ _ (by omega)]; exact e20
              have hVr : jl_Vr b m (jk_h b m (σ 43 0)) (σ 43 0) = (0, σ 43 0 + 1, []) := if_neg (by omega)
              have hX8 := hrv3.1
              refine jw_W_n 1 (i' := 69) (ls' := [some (.inr (.inr 42)), some (.inl (jk_h b m (σ 43 0))), some (.inl 0), none]) (st' := [.inr (.inr 42)]) rfl ?_
              refine jw_W_gf rfl rfl rfl ?_
              show jw_W (js_S n) _ md_47 70 [some (.inr (.inr 42)), some (.inl (jk_h b m (σ 43 0))), some (.inl 0), none] [.inr (.inr 43)] σ8 _
              refine jw_W_n 1 (i' := 71) (ls' := [some (.inr (.inr 42)), some (.inl (jk_h b m (σ 43 0))), some (.inl 0), none]) (st' := [.inl 40, .inr (.inr 43)]) rfl ?_
              refine jw_W_call (as := [.inr (.inr 43), .inl 40]) (rest := []) rfl rfl rfl rfl (Nat.le_of_ble_eq_true rfl) (.inr rfl) (jl_expect hX8 (x := 40) (by omega)) (by omega) ?_ rfl
              rintro r1 σ4 ⟨rfl, hE4, h42⟩
              rename jw_H => σ4
              have hX4 := hE4.1
              have hx4 : jl_exq b m 40 σ8 σ4 := h42
              clear h42
              show jw_W (js_S n) _ md_47 72 [some (.inr (.inr 42)), some (.inl (jk_h b m (σ 43 0))), some (.inl 0), none] [] σ4 _
              refine jw_W_n 3 (i' := 75) (ls' := [some (.inr (.inr 42)), some (.inl (jk_h b m (σ 43 0))), some (.inl 0), none]) (st' := [.inl 1, .inl 1, .inr (.inr 42)]) rfl ?_
              refine jw_W_call (as := [.inr (.inr 42), .inl 1, .inl 1]) (rest := []) rfl rfl rfl rfl (Nat.le_of_ble_eq_true rfl) (.inr rfl) (jl_readCond σ4 1 hX4 (.inr rfl)) (by omega) ?_ rfl
              rintro r1 σ5 ⟨c, rfl, hc5⟩
              rename jw_H => σ5
              have hc5 : jl_sw b m e jl_bV (jl_cnd b m (jl_T b m 5) (σ4 43 0)) 1 c σ4 σ5 := hc5
              have rgc : 0 ≤ c ∧ c ≤ 1 := by rcases hc5.1 with u | u <;> rw [u] <;> decide
              have hX5 := hc5.2.1
              show jw_W (js_S n) _ md_47 76 [some (.inr (.inr 42)), some (.inl (jk_h b m (σ 43 0))), some (.inl 0), none] [.inl c] σ5 _
              refine jw_W_n 2 (i' := 78) (ls' := [some (.inr (.inr 42)), some (.inl (jk_h b m (σ 43 0))), some (.inl 0), some (.inl c)]) (st' := [.inr (.inr 42)]) rfl ?_
              refine jw_W_gf rfl rfl rfl ?_
              show jw_W (js_S n) _ md_47 79 [some (.inr (.inr 42)), some (.inl (jk_h b m (σ 43 0))), some (.inl 0), some (.inl c)] [.inr (.inr 43)] σ5 _
              refine jw_W_n 1 (i' := 80) (ls' := [some (.inr (.inr 42)), some (.inl (jk_h b m (σ 43 0))), some (.inl 0), some (.inl c)]) (st' := [.inl 41, .inr (.inr 43)]) rfl ?_
              refine jw_W_call (as := [.inr (.inr 43), .inl 41]) (rest := []) rfl rfl rfl rfl (Nat.le_of_ble_eq_true rfl) (.inr rfl) (jl_expect hX5 (x := 41) (by omega)) (by omega) ?_ rfl
              rintro r1 σ6 ⟨rfl, hE6, h62⟩
              rename jw_H => σ6
              have hX6 := hE6.1
              have hx6 : jl_exq b m 41 σ5 σ6 := h62
              clear h62
              have r69 : 0 ≤ σ6 42 9 ∧ σ6 42 9 ≤ 1 := by rcases hX6.2.2.2.2.2.1 with u | u <;> rw [u] <;> decide
              have e68 : σ6 42 8 = σ 42 8 := by rw [hE6.2.2, hc5.2.2.1.2.1 8 (by omega), hE4.2.2, hrv3.2.2.1 8 (by omega) (by omega)]
              show jw_W (js_S n) _ md_47 81 [some (.inr (.inr 42)), some (.inl (jk_h b m (σ 43 0))), some (.inl 0), some (.inl c)] [] σ6 _
              refine jw_W_n 1 (i' := 82) (ls' := [some (.inr (.inr 42)), some (.inl (jk_h b m (σ 43 0))), some (.inl 0), some (.inl c)]) (st' := [.inl c]) rfl ?_
              refine jw_W_if rfl (by unfold jw_rg; omega) (fun hc21 => ?_) (fun hc21 => ?_)
              · have hc21 : c = 0 := hc21
                refine jw_W_re rfl ?_
                exact ⟨rfl, jl_rule_end hz rfl hx2 h7n h8 hVr hrv3 ⟨hE4, hx4⟩ hc5 ⟨hE6, hx6⟩ (.inl ⟨.inl (by assumption), rfl⟩)⟩
              · have hc21 : ¬ (c = 0) := hc21
                refine jw_W_n 1 (i' := 84) (ls' := [some (.inr (.inr 42)), some (.inl (jk_h b m (σ 43 0))), some (.inl 0), some (.inl c)]) (st' := [.inr (.inr 42)]) rfl ?_
                refine jw_W_gf rfl rfl rfl ?_
                show jw_W (js_S n) _ md_47 85 [some (.inr (.inr 42)), some (.inl (jk_h b m (σ 43 0))), some (.inl 0), some (.inl c)] [.inl (σ6 42 9)] σ6 _
                refine jw_W_if rfl (by unfold jw_rg; omega) (fun hc22 => ?_) (fun hc22 => ?_)
                · have hc22 : (σ6 42 9) ≠ 0 := hc22
                  refine jw_W_re rfl ?_
                  exact ⟨rfl, jl_rule_end hz rfl hx2 h7n h8 hVr hrv3 ⟨hE4, hx4⟩ hc5 ⟨hE6, hx6⟩ (.inl ⟨.inr (by assumption), rfl⟩)⟩
                · have hc22 : (σ6 42 9) = 0 := Classical.not_not.mp hc22
                  refine jw_W_n 3 (i' := 89) (ls' := [some (.inr (.inr 42)), some (.inl (jk_h b m (σ 43 0))), some (.inl 0), some (.inl c)]) (st' := [.inl 0, .inl (jk_h b m (σ 43 0)), .inr (.inr 42)]) rfl ?_
                  refine jw_W_call (as := [.inr (.inr 42), .inl (jk_h b m (σ 43 0)), .inl 0]) (rest := []) rfl rfl rfl rfl (Nat.le_of_ble_eq_true rfl) (.inr rfl) (jl_apply rgx rg0 (by rw [e68]; exact rg8)) (by omega) ?_ rfl
                  rintro r1 σ7 ⟨rfl, hA⟩
                  rename jw_H => σ7
                  show jw_W (js_S n) _ md_47 90 [some (.inr (.inr 42)), some (.inl (jk_h b m (σ 43 0))), some (.inl 0), some (.inl c)] [] σ7 _
                  refine jw_W_re rfl ?_
                  exact ⟨rfl, jl_rule_end hz rfl hx2 h7n h8 hVr hrv3 ⟨hE4, hx4⟩ hc5 ⟨hE6, hx6⟩ (.inr ⟨⟨by assumption, by assumption⟩, hA⟩)⟩
            · have hc20 : ¬ ((σ2 42 9) = 0) := hc20
              refine jw_W_n 4 (i' := 67) (ls' := [some (.inr (.inr 42)), some (.inl (jk_h b m (σ 43 0))), some (.inl 0), none]) (st' := [.inl 0, .inr (.inr 42)]) rfl ?_
              refine jw_W_pf (a := 0) rfl (by omega) rfl rfl rfl rfl rfl ?_
              obtain ⟨σ8, hs8⟩ : ∃ s : jw_H, s = jw_up σ2 42 9 0 := ⟨_, rfl⟩
              show jw_W (js_S n) _ _ _ _ _ (jw_up σ2 42 9 0) _
              rw [← hs8]
              have hrv3 : jl_rv b m e (0, σ 43 0 + 1, []) (jk_h b m (σ 43 0)) 0 σ σ8 := by
                have k9 := jl_E9 hX2 (.inl rfl : (0 : Int) = 0 ∨ (0 : Int) = 1)
                rw [← hs8] at k9
                refine ⟨k9.1, fun c d1 d2 => ?_, fun j d1 d2 => ?_, ?_, ?_, ?_, ?_, fun _ => ⟨?_, fun hq => by omega⟩⟩
                · rw [hs8, jw_up_out _ _ _ d1, c2 c d1 d2]
                · rw [hs8, jw_up_ne _ (by omega), j2 j d1 d2]
                · rw [hs8, jw_up_ne _ (by omega), e27]
                · rw [hs8]; exact jw_up_eq _ _ _ _
                · rw [hs8, jw_up_out _ _ _ (by omega)]
                  omega
                · rw [hs8, jw_up_out _ _ _ (by omega), e22]; exact hz
                · rw [hs8, jw_up_out _ _ _ (by omega)]; exact e20
              have hVr : jl_Vr b m (jk_h b m (σ 43 0)) (σ 43 0) = (0, σ 43 0 + 1, []) := if_neg (by omega)
              have hX8 := hrv3.1
              refine jw_W_n 1 (i' := 69) (ls' := [some (.inr (.inr 42)), some (.inl (jk_h b m (σ 43 0))), some (.inl 0), none]) (st' := [.inr (.inr 42)]) rfl ?_
              refine jw_W_gf rfl rfl rfl ?_
              show jw_W (js_S n) _ md_47 70 [some (.inr (.inr 42)), some (.inl (jk_h b m (σ 43 0))), some (.inl 0), none] [.inr (.inr 43)] σ8 _
              refine jw_W_n 1 (i' := 71) (ls' := [some (.inr (.inr 42)), some (.inl (jk_h b m (σ 43 0))), some (.inl 0), none]) (st' := [.inl 40, .inr (.inr 43)]) rfl ?_
              refine jw_W_call (as := [.inr (.inr 43), .inl 40]) (rest := []) rfl rfl rfl rfl (Nat.le_of_ble_eq_true rfl) (.inr rfl) (jl_expect hX8 (x := 40) (by omega)) (by omega) ?_ rfl
              rintro r1 σ4 ⟨rfl, hE4, h42⟩
              rename jw_H => σ4
              have hX4 := hE4.1
              have hx4 : jl_exq b m 40 σ8 σ4 := h42
              clear h42
              show jw_W (js_S n) _ md_47 72 [some (.inr (.inr 42)), some (.inl (jk_h b m (σ 43 0))), some (.inl 0), none] [] σ4 _
              refine jw_W_n 3 (i' := 75) (ls' := [some (.inr (.inr 42)), some (.inl (jk_h b m (σ 43 0))), some (.inl 0), none]) (st' := [.inl 1, .inl 1, .inr (.inr 42)]) rfl ?_
              refine jw_W_call (as := [.inr (.inr 42), .inl 1, .inl 1]) (rest := []) rfl rfl rfl rfl (Nat.le_of_ble_eq_true rfl) (.inr rfl) (jl_readCond σ4 1 hX4 (.inr rfl)) (by omega) ?_ rfl
              rintro r1 σ5 ⟨c, rfl, hc5⟩
              rename jw_H => σ5
              have hc5 : jl_sw b m e jl_bV (jl_cnd b m (jl_T b m 5) (σ4 43 0)) 1 c σ4 σ5 := hc5
              have rgc : 0 ≤ c ∧ c ≤ 1 := by rcases hc5.1 with u | u <;> rw [u] <;> decide
              have hX5 := hc5.2.1
              show jw_W (js_S n) _ md_47 76 [some (.inr (.inr 42)), some (.inl (jk_h b m (σ 43 0))), some (.inl 0), none] [.inl c] σ5 _
              refine jw_W_n 2 (i' := 78) (ls' := [some (.inr (.inr 42)), some (.inl (jk_h b m (σ 43 0))), some (.inl 0), some (.inl c)]) (st' := [.inr (.inr 42)]) rfl ?_
              refine jw_W_gf rfl rfl rfl ?_
              show jw_W (js_S n) _ md_47 79 [some (.inr (.inr 42)), some (.inl (jk_h b m (σ 43 0))), some (.inl 0), some (.inl c)] [.inr (.inr 43)] σ5 _
              refine jw_W_n 1 (i' := 80) (ls' := [some (.inr (.inr 42)), some (.inl (jk_h b m (σ 43 0))), some (.inl 0), some (.inl c)]) (st' := [.inl 41, .inr (.inr 43)]) rfl ?_
              refine jw_W_call (as := [.inr (.inr 43), .inl 41]) (rest := []) rfl rfl rfl rfl (Nat.le_of_ble_eq_true rfl) (.inr rfl) (jl_expect hX5 (x := 41) (by omega)) (by omega) ?_ rfl
              rintro r1 σ6 ⟨rfl, hE6, h62⟩
              rename jw_H => σ6
              have hX6 := hE6.1
              have hx6 : jl_exq b m 41 σ5 σ6 := h62
              clear h62
              have r69 : 0 ≤ σ6 42 9 ∧ σ6 42 9 ≤ 1 := by rcases hX6.2.2.2.2.2.1 with u | u <;> rw [u] <;> decide
              have e68 : σ6 42 8 = σ 42 8 := by rw [hE6.2.2, hc5.2.2.1.2.1 8 (by omega), hE4.2.2, hrv3.2.2.1 8 (by omega) (by omega)]
              show jw_W (js_S n) _ md_47 81 [some (.inr (.inr 42)), some (.inl (jk_h b m (σ 43 0))), some (.inl 0), some (.inl c)] [] σ6 _
              refine jw_W_n 1 (i' := 82) (ls' := [some (.inr (.inr 42)), some (.inl (jk_h b m (σ 43 0))), some (.inl 0), some (.inl c)]) (st' := [.inl c]) rfl ?_
              refine jw_W_if rfl (by unfold jw_rg; omega) (fun hc23 => ?_) (fun hc23 => ?_)
              · have hc23 : c = 0 := hc23
                refine jw_W_re rfl ?_
                exact ⟨rfl, jl_rule_end hz rfl hx2 h7n h8 hVr hrv3 ⟨hE4, hx4⟩ hc5 ⟨hE6, hx6⟩ (.inl ⟨.inl (by assumption), rfl⟩)⟩
              · have hc23 : ¬ (c = 0) := hc23
                refine jw_W_n 1 (i' := 84) (ls' := [some (.inr (.inr 42)), some (.inl (jk_h b m (σ 43 0))), some (.inl 0), some (.inl c)]) (st' := [.inr (.inr 42)]) rfl ?_
                refine jw_W_gf rfl rfl rfl ?_
                show jw_W (js_S n) _ md_47 85 [some (.inr (.inr 42)), some (.inl (jk_h b m (σ 43 0))), some (.inl 0), some (.inl c)] [.inl (σ6 42 9)] σ6 _
                refine jw_W_if rfl (by unfold jw_rg; omega) (fun hc24 => ?_) (fun hc24 => ?_)
                · have hc24 : (σ6 42 9) ≠ 0 := hc24
                  refine jw_W_re rfl ?_
                  exact ⟨rfl, jl_rule_end hz rfl hx2 h7n h8 hVr hrv3 ⟨hE4, hx4⟩ hc5 ⟨hE6, hx6⟩ (.inl ⟨.inr (by assumption), rfl⟩)⟩
                · have hc24 : (σ6 42 9) = 0 := Classical.not_not.mp hc24
                  refine jw_W_n 3 (i' := 89) (ls' := [some (.inr (.inr 42)), some (.inl (jk_h b m (σ 43 0))), some (.inl 0), some (.inl c)]) (st' := [.inl 0, .inl (jk_h b m (σ 43 0)), .inr (.inr 42)]) rfl ?_
                  refine jw_W_call (as := [.inr (.inr 42), .inl (jk_h b m (σ 43 0)), .inl 0]) (rest := []) rfl rfl rfl rfl (Nat.le_of_ble_eq_true rfl) (.inr rfl) (jl_apply rgx rg0 (by rw [e68]; exact rg8)) (by omega) ?_ rfl
                  rintro r1 σ7 ⟨rfl, hA⟩
                  rename jw_H => σ7
                  show jw_W (js_S n) _ md_47 90 [some (.inr (.inr 42)), some (.inl (jk_h b m (σ 43 0))), some (.inl 0), some (.inl c)] [] σ7 _
                  refine jw_W_re rfl ?_
                  exact ⟨rfl, jl_rule_end hz rfl hx2 h7n h8 hVr hrv3 ⟨hE4, hx4⟩ hc5 ⟨hE6, hx6⟩ (.inr ⟨⟨by assumption, by assumption⟩, hA⟩)⟩
          · have hc19 : (jk_h b m (σ 43 0)) = 118 := Classical.not_not.mp hc19
            refine jw_W_n 3 (i' := 56) (ls' := [some (.inr (.inr 42)), some (.inl (jk_h b m (σ 43 0))), none, none]) (st' := [.inl 1, .inl 0, .inr (.inr 42)]) rfl ?_
            refine jw_W_call (as := [.inr (.inr 42), .inl 0, .inl 1]) (rest := []) rfl rfl rfl rfl (Nat.le_of_ble_eq_true rfl) (.inr rfl) (jl_readSum 6 (by omega) (by omega) σ2 1 hX2 (.inr rfl)) (by omega) ?_ rfl
            rintro r1 σ3 ⟨v, rfl, hv⟩
            rename jw_H => σ3
            have hv : jl_sw b m e jl_rgV (jl_S b m 6 (σ2 43 0)) 1 v σ2 σ3 := hv
            have hrv : jw_rg v := hv.1
            have r39 : 0 ≤ σ3 42 9 ∧ σ3 42 9 ≤ 1 := by rcases hv.2.1.2.2.2.2.2.1 with u | u <;> rw [u] <;> decide
            show jw_W (js_S n) _ md_47 57 [some (.inr (.inr 42)), some (.inl (jk_h b m (σ 43 0))), none, none] [.inl v] σ3 _
            refine jw_W_n 3 (i' := 61) (ls' := [some (.inr (.inr 42)), some (.inl (jk_h b m (σ 43 0))), some (.inl v), none]) (st' := [.inr (.inr 42)]) rfl ?_
            refine jw_W_gf rfl rfl rfl ?_
            show jw_W (js_S n) _ md_47 62 [some (.inr (.inr 42)), some (.inl (jk_h b m (σ 43 0))), some (.inl v), none] [.inl (σ3 42 9)] σ3 _
            refine jw_W_if rfl (by unfold jw_rg; omega) (fun hc25 => ?_) (fun hc25 => ?_)
            · have hc25 : (σ3 42 9) = 0 := hc25
              refine jw_W_n 2 (i' := 67) (ls' := [some (.inr (.inr 42)), some (.inl (jk_h b m (σ 43 0))), some (.inl v), none]) (st' := [.inl 0, .inr (.inr 42)]) rfl ?_
              refine jw_W_pf (a := 0) rfl (by omega) rfl rfl rfl rfl rfl ?_
              obtain ⟨σ8, hs8⟩ : ∃ s : jw_H, s = jw_up σ3 42 9 0 := ⟨_, rfl⟩
              show jw_W (js_S n) _ _ _ _ _ (jw_up σ3 42 9 0) _
              rw [← hs8]
              obtain ⟨q1, q2⟩ := hv.2.2.2.2 (e22.trans hz)
              rw [e20] at q1 q2
              have hrv3 : jl_rv b m e (jl_S b m 6 (σ 43 0 + 1)) (jk_h b m (σ 43 0)) v σ σ8 := by
                have k9 := jl_E9 hv.2.1 (.inl rfl : (0 : Int) = 0 ∨ (0 : Int) = 1)
                rw [← hs8] at k9
                have d9 := hv.2.2.1
                refine ⟨k9.1, fun c d1 d2 => ?_, fun j d1 d2 => ?_, ?_, ?_, ?_, ?_, fun hq => ⟨?_, fun _ => ?_⟩⟩
                · rw [hs8, jw_up_out _ _ _ d1, d9.1 c d1 d2, c2 c d1 d2]
                · rw [hs8, jw_up_ne _ (by omega), d9.2.1 j d2, j2 j d1 d2]
                · rw [hs8, jw_up_ne _ (by omega), d9.2.1 7 (by omega), e27]
                · rw [hs8]; exact jw_up_eq _ _ _ _
                · have := d9.2.2.2
                  rw [hs8, jw_up_out _ _ _ (by omega)]
                  omega
                · rw [hs8, jw_up_out _ _ _ (by omega)]; exact q1
                · rw [hs8, jw_up_out _ _ _ (by omega)]; exact (q2 hq).1
                · obtain ⟨d, d1, d2⟩ := (q2 hq).2 rfl
                  rw [e29] at d2
                  by_cases hd : d
                  · have := d2.mpr (.inr hd); omega
                  · exact (jl_rt_v d1 hd).symm
              have hVr : jl_Vr b m (jk_h b m (σ 43 0)) (σ 43 0) = jl_S b m 6 (σ 43 0 + 1) := if_pos (by omega)
              have hX8 := hrv3.1
              refine jw_W_n 1 (i' := 69) (ls' := [some (.inr (.inr 42)), some (.inl (jk_h b m (σ 43 0))), some (.inl v), none]) (st' := [.inr (.inr 42)]) rfl ?_
              refine jw_W_gf rfl rfl rfl ?_
              show jw_W (js_S n) _ md_47 70 [some (.inr (.inr 42)), some (.inl (jk_h b m (σ 43 0))), some (.inl v), none] [.inr (.inr 43)] σ8 _
              refine jw_W_n 1 (i' := 71) (ls' := [some (.inr (.inr 42)), some (.inl (jk_h b m (σ 43 0))), some (.inl v), none]) (st' := [.inl 40, .inr (.inr 43)]) rfl ?_
              refine jw_W_call (as := [.inr (.inr 43), .inl 40]) (rest := []) rfl rfl rfl rfl (Nat.le_of_ble_eq_true rfl) (.inr rfl) (jl_expect hX8 (x := 40) (by omega)) (by omega) ?_ rfl
              rintro r1 σ4 ⟨rfl, hE4, h42⟩
              rename jw_H => σ4
              have hX4 := hE4.1
              have hx4 : jl_exq b m 40 σ8 σ4 := h42
              clear h42
              show jw_W (js_S n) _ md_47 72 [some (.inr (.inr 42)), some (.inl (jk_h b m (σ 43 0))), some (.inl v), none] [] σ4 _
              refine jw_W_n 3 (i' := 75) (ls' := [some (.inr (.inr 42)), some (.inl (jk_h b m (σ 43 0))), some (.inl v), none]) (st' := [.inl 1, .inl 1, .inr (.inr 42)]) rfl ?_
              refine jw_W_call (as := [.inr (.inr 42), .inl 1, .inl 1]) (rest := []) rfl rfl rfl rfl (Nat.le_of_ble_eq_true rfl) (.inr rfl) (jl_readCond σ4 1 hX4 (.inr rfl)) (by omega) ?_ rfl
              rintro r1 σ5 ⟨c, rfl, hc5⟩
              rename jw_H => σ5
              have hc5 : jl_sw b m e jl_bV (jl_cnd b m (jl_T b m 5) (σ4 43 0)) 1 c σ4 σ5 := hc5
              have rgc : 0 ≤ c ∧ c ≤ 1 := by rcases hc5.1 with u | u <;> rw [u] <;> decide
              have hX5 := hc5.2.1
              show jw_W (js_S n) _ md_47 76 [some (.inr (.inr 42)), some (.inl (jk_h b m (σ 43 0))), some (.inl v), none] [.inl c] σ5 _
              refine jw_W_n 2 (i' := 78) (ls' := [some (.inr (.inr 42)), some (.inl (jk_h b m (σ 43 0))), some (.inl v), some (.inl c)]) (st' := [.inr (.inr 42)]) rfl ?_
              refine jw_W_gf rfl rfl rfl ?_
              show jw_W (js_S n) _ md_47 79 [some (.inr (.inr 42)), some (.inl (jk_h b m (σ 43 0))), some (.inl v), some (.inl c)] [.inr (.inr 43)] σ5 _
              refine jw_W_n 1 (i' := 80) (ls' := [some (.inr (.inr 42)), some (.inl (jk_h b m (σ 43 0))), some (.inl v), some (.inl c)]) (st' := [.inl 41, .inr (.inr 43)]) rfl ?_
              refine jw_W_call (as := [.inr (.inr 43), .inl 41]) (rest := []) rfl rfl rfl rfl (Nat.le_of_ble_eq_true rfl) (.inr rfl) (jl_expect hX5 (x := 41) (by omega)) (by omega) ?_ rfl
              rintro r1 σ6 ⟨rfl, hE6, h62⟩
              rename jw_H => σ6
              have hX6 := hE6.1
              have hx6 : jl_exq b m 41 σ5 σ6 := h62
              clear h62
              have r69 : 0 ≤ σ6 42 9 ∧ σ6 42 9 ≤ 1 := by rcases hX6.2.2.2.2.2.1 with u | u <;> rw [u] <;> decide
              have e68 : σ6 42 8 = σ 42 8 := by rw [hE6.2.2, hc5.2.2.1.2.1 8 (by omega), hE4.2.2, hrv3.2.2.1 8 (by omega) (by omega)]
              show jw_W (js_S n) _ md_47 81 [some (.inr (.inr 42)), some (.inl (jk_h b m (σ 43 0))), some (.inl v), some (.inl c)] [] σ6 _
              refine jw_W_n 1 (i' := 82) (ls' := [some (.inr (.inr 42)), some (.inl (jk_h b m (σ 43 0))), some (.inl v), some (.inl c)]) (st' := [.inl c]) rfl ?_
              refine jw_W_if rfl (by unfold jw_rg; omega) (fun hc26 => ?_) (fun hc26 => ?_)
              · have hc26 : c = 0 := hc26
                refine jw_W_re rfl ?_
                exact ⟨rfl, jl_rule_end hz rfl hx2 h7n h8 hVr hrv3 ⟨hE4, hx4⟩ hc5 ⟨hE6, hx6⟩ (.inl ⟨.inl (by assumption), rfl⟩)⟩
              · have hc26 : ¬ (c = 0) := hc26
                refine jw_W_n 1 (i' := 84) (ls' := [some (.inr (.inr 42)), some (.inl (jk_h b m (σ 43 0))), some (.inl v), some (.inl c)]) (st' := [.inr (.inr 42)]) rfl ?_
                refine jw_W_gf rfl rfl rfl ?_
                show jw_W (js_S n) _ md_47 85 [some (.inr (.inr 42)), some (.inl (jk_h b m (σ 43 0))), some (.inl v), some (.inl c)] [.inl (σ6 42 9)] σ6 _
                refine jw_W_if rfl (by unfold jw_rg; omega) (fun hc27 => ?_) (fun hc27 => ?_)
                · have hc27 : (σ6 42 9) ≠ 0 := hc27
                  refine jw_W_re rfl ?_
                  exact ⟨rfl, jl_rule_end hz rfl hx2 h7n h8 hVr hrv3 ⟨hE4, hx4⟩ hc5 ⟨hE6, hx6⟩ (.inl ⟨.inr (by assumption), rfl⟩)⟩
                · have hc27 : (σ6 42 9) = 0 := Classical.not_not.mp hc27
                  refine jw_W_n 3 (i' := 89) (ls' := [some (.inr (.inr 42)), some (.inl (jk_h b m (σ 43 0))), some (.inl v), some (.inl c)]) (st' := [.inl v, .inl (jk_h b m (σ 43 0)), .inr (.inr 42)]) rfl ?_
                  refine jw_W_call (as := [.inr (.inr 42), .inl (jk_h b m (σ 43 0)), .inl v]) (rest := []) rfl rfl rfl rfl (Nat.le_of_ble_eq_true rfl) (.inr rfl) (jl_apply rgx hrv (by rw [e68]; exact rg8)) (by omega) ?_ rfl
                  rintro r1 σ7 ⟨rfl, hA⟩
                  rename jw_H => σ7
                  show jw_W (js_S n) _ md_47 90 [some (.inr (.inr 42)), some (.inl (jk_h b m (σ 43 0))), some (.inl v), some (.inl c)] [] σ7 _
                  refine jw_W_re rfl ?_
                  exact ⟨rfl, jl_rule_end hz rfl hx2 h7n h8 hVr hrv3 ⟨hE4, hx4⟩ hc5 ⟨hE6, hx6⟩ (.inr ⟨⟨by assumption, by assumption⟩, hA⟩)⟩
            · have hc25 : ¬ ((σ3 42 9) = 0) := hc25
              refine jw_W_n 4 (i' := 67) (ls' := [some (.inr (.inr 42)), some (.inl (jk_h b m (σ 43 0))), some (.inl 0), none]) (st' := [.inl 0, .inr (.inr 42)]) rfl ?_
              refine jw_W_pf (a := 0) rfl (by omega) rfl rfl rfl rfl rfl ?_
              obtain ⟨σ8, hs8⟩ : ∃ s : jw_H, s = jw_up σ3 42 9 0 := ⟨_, rfl⟩
              show jw_W (js_S n) _ _ _ _ _ (jw_up σ3 42 9 0) _
              rw [← hs8]
              obtain ⟨q1, q2⟩ := hv.2.2.2.2 (e22.trans hz)
              rw [e20] at q1 q2
              have hrv3 : jl_rv b m e (jl_S b m 6 (σ 43 0 + 1)) (jk_h b m (σ 43 0)) 0 σ σ8 := by
                have k9 := jl_E9 hv.2.1 (.inl rfl : (0 : Int) = 0 ∨ (0 : Int) = 1)
                rw [← hs8] at k9
                have d9 := hv.2.2.1
                refine ⟨k9.1, fun c d1 d2 => ?_, fun j d1 d2 => ?_, ?_, ?_, ?_, ?_, fun hq => ⟨?_, fun _ => ?_⟩⟩
                · rw [hs8, jw_up_out _ _ _ d1, d9.1 c d1 d2, c2 c d1 d2]
                · rw [hs8, jw_up_ne _ (by omega), d9.2.1 j d2, j2 j d1 d2]
                · rw [hs8, jw_up_ne _ (by omega), d9.2.1 7 (by omega), e27]
                · rw [hs8]; exact jw_up_eq _ _ _ _
                · have := d9.2.2.2
                  rw [hs8, jw_up_out _ _ _ (by omega)]
                  omega
                · rw [hs8, jw_up_out _ _ _ (by omega)]; exact q1
                · rw [hs8, jw_up_out _ _ _ (by omega)]; exact (q2 hq).1
                · obtain ⟨d, d1, d2⟩ := (q2 hq).2 rfl
                  rw [e29] at d2
                  by_cases hd : d
                  · rw [jl_rt_d d1 hd]
                  · have hq9 : σ3 42 9 ≠ 1 := fun w => by rcases d2.mp w with u | u; omega; exact hd u
                    omega
              have hVr : jl_Vr b m (jk_h b m (σ 43 0)) (σ 43 0) = jl_S b m 6 (σ 43 0 + 1) := if_pos (by omega)
              have hX8 := hrv3.1
              refine jw_W_n 1 (i' := 69) (ls' := [some (.inr (.inr 42)), some (.inl (jk_h b m (σ 43 0))), some (.inl 0), none]) (st' := [.inr (.inr 42)]) rfl ?_
              refine jw_W_gf rfl rfl rfl ?_
              show jw_W (js_S n) _ md_47 70 [some (.inr (.inr 42)), some (.inl (jk_h b m (σ 43 0))), some (.inl 0), none] [.inr (.inr 43)] σ8 _
              refine jw_W_n 1 (i' := 71) (ls' := [some (.inr (.inr 42)), some (.inl (jk_h b m (σ 43 0))), some (.inl 0), none]) (st' := [.inl 40, .inr (.inr 43)]) rfl ?_
              refine jw_W_call (as := [.inr (.inr 43), .inl 40]) (rest := []) rfl rfl rfl rfl (Nat.le_of_ble_eq_true rfl) (.inr rfl) (jl_expect hX8 (x := 40) (by omega)) (by omega) ?_ rfl
              rintro r1 σ4 ⟨rfl, hE4, h42⟩
              rename jw_H => σ4
              have hX4 := hE4.1
              have hx4 : jl_exq b m 40 σ8 σ4 := h42
              clear h42
              show jw_W (js_S n) _ md_47 72 [some (.inr (.inr 42)), some (.inl (jk_h b m (σ 43 0))), some (.inl 0), none] [] σ4 _
              refine jw_W_n 3 (i' := 75) (ls' := [some (.inr (.inr 42)), some (.inl (jk_h b m (σ 43 0))), some (.inl 0), none]) (st' := [.inl 1, .inl 1, .inr (.inr 42)]) rfl ?_
              refine jw_W_call (as := [.inr (.inr 42), .inl 1, .inl 1]) (rest := []) rfl rfl rfl rfl (Nat.le_of_ble_eq_true rfl) (.inr rfl) (jl_readCond σ4 1 hX4 (.inr rfl)) (by omega) ?_ rfl
              rintro r1 σ5 ⟨c, rfl, hc5⟩
              rename jw_H => σ5
              have hc5 : jl_sw b m e jl_bV (jl_cnd b m (jl_T b m 5) (σ4 43 0)) 1 c σ4 σ5 := hc5
              have rgc : 0 ≤ c ∧ c ≤ 1 := by rcases hc5.1 with u | u <;> rw [u] <;> decide
              have hX5 := hc5.2.1
              show jw_W (js_S n) _ md_47 76 [some (.inr (.inr 42)), some (.inl (jk_h b m (σ 43 0))), some (.inl 0), none] [.inl c] σ5 _
              refine jw_W_n 2 (i' := 78) (ls' := [some (.inr (.inr 42)), some (.inl (jk_h b m (σ 43 0))), some (.inl 0), some (.inl c)]) (st' := [.inr (.inr 42)]) rfl ?_
              refine jw_W_gf rfl rfl rfl ?_
              show jw_W (js_S n) _ md_47 79 [some (.inr (.inr 42)), some (.inl (jk_h b m (σ 43 0))), some (.inl 0), some (.inl c)] [.inr (.inr 43)] σ5 _
              refine jw_W_n 1 (i' := 80) (ls' := [some (.inr (.inr 42)), some (.inl (jk_h b m (σ 43 0))), some (.inl 0), some (.inl c)]) (st' := [.inl 41, .inr (.inr 43)]) rfl ?_
              refine jw_W_call (as := [.inr (.inr 43), .inl 41]) (rest := []) rfl rfl rfl rfl (Nat.le_of_ble_eq_true rfl) (.inr rfl) (jl_expect hX5 (x := 41) (by omega)) (by omega) ?_ rfl
              rintro r1 σ6 ⟨rfl, hE6, h62⟩
              rename jw_H => σ6
              have hX6 := hE6.1
              have hx6 : jl_exq b m 41 σ5 σ6 := h62
              clear h62
              have r69 : 0 ≤ σ6 42 9 ∧ σ6 42 9 ≤ 1 := by rcases hX6.2.2.2.2.2.1 with u | u <;> rw [u] <;> decide
              have e68 : σ6 42 8 = σ 42 8 := by rw [hE6.2.2, hc5.2.2.1.2.1 8 (by omega), hE4.2.2, hrv3.2.2.1 8 (by omega) (by omega)]
              show jw_W (js_S n) _ md_47 81 [some (.inr (.inr 42)), some (.inl (jk_h b m (σ 43 0))), some (.inl 0), some (.inl c)] [] σ6 _
              refine jw_W_n 1 (i' := 82) (ls' := [some (.inr (.inr 42)), some (.inl (jk_h b m (σ 43 0))), some (.inl 0), some (.inl c)]) (st' := [.inl c]) rfl ?_
              refine jw_W_if rfl (by unfold jw_rg; omega) (fun hc28 => ?_) (fun hc28 => ?_)
              · have hc28 : c = 0 := hc28
                refine jw_W_re rfl ?_
                exact ⟨rfl, jl_rule_end hz rfl hx2 h7n h8 hVr hrv3 ⟨hE4, hx4⟩ hc5 ⟨hE6, hx6⟩ (.inl ⟨.inl (by assumption), rfl⟩)⟩
              · have hc28 : ¬ (c = 0) := hc28
                refine jw_W_n 1 (i' := 84) (ls' := [some (.inr (.inr 42)), some (.inl (jk_h b m (σ 43 0))), some (.inl 0), some (.inl c)]) (st' := [.inr (.inr 42)]) rfl ?_
                refine jw_W_gf rfl rfl rfl ?_
                show jw_W (js_S n) _ md_47 85 [some (.inr (.inr 42)), some (.inl (jk_h b m (σ 43 0))), some (.inl 0), some (.inl c)] [.inl (σ6 42 9)] σ6 _
                refine jw_W_if rfl (by unfold jw_rg; omega) (fun hc29 => ?_) (fun hc29 => ?_)
                · have hc29 : (σ6 42 9) ≠ 0 := hc29
                  refine jw_W_re rfl ?_
                  exact ⟨rfl, jl_rule_end hz rfl hx2 h7n h8 hVr hrv3 ⟨hE4, hx4⟩ hc5 ⟨hE6, hx6⟩ (.inl ⟨.inr (by assumption), rfl⟩)⟩
                · have hc29 : (σ6 42 9) = 0 := Classical.not_not.mp hc29
                  refine jw_W_n 3 (i' := 89) (ls' := [some (.inr (.inr 42)), some (.inl (jk_h b m (σ 43 0))), some (.inl 0), some (.inl c)]) (st' := [.inl 0, .inl (jk_h b m (σ 43 0)), .inr (.inr 42)]) rfl ?_
                  refine jw_W_call (as := [.inr (.inr 42), .inl (jk_h b m (σ 43 0)), .inl 0]) (rest := []) rfl rfl rfl rfl (Nat.le_of_ble_eq_true rfl) (.inr rfl) (jl_apply rgx rg0 (by rw [e68]; exact rg8)) (by omega) ?_ rfl
                  rintro r1 σ7 ⟨rfl, hA⟩
                  rename jw_H => σ7
                  show jw_W (js_S n) _ md_47 90 [some (.inr (.inr 42)), some (.inl (jk_h b m (σ 43 0))), some (.inl 0), some (.inl c)] [] σ7 _
                  refine jw_W_re rfl ?_
                  exact ⟨rfl, jl_rule_end hz rfl hx2 h7n h8 hVr hrv3 ⟨hE4, hx4⟩ hc5 ⟨hE6, hx6⟩ (.inr ⟨⟨by assumption, by assumption⟩, hA⟩)⟩
        · have hc18 : ¬ ((σ 43 2) = 0) := hc18
          refine jw_W_re rfl ?_
          exact ⟨rfl, hX, jl_DR_rf σ, fun hz => by omega, fun h => h⟩
      · have hc17 : ¬ ((σ 42 7) < 16) := hc17
        refine jw_W_n 1 (i' := 23) (ls' := [some (.inr (.inr 42)), some (.inl (jk_h b m (σ 43 0))), none, none]) (st' := [.inr (.inr 42)]) rfl ?_
        refine jw_W_gf rfl rfl rfl ?_
        show jw_W (js_S n) _ md_47 24 [some (.inr (.inr 42)), some (.inl (jk_h b m (σ 43 0))), none, none] [.inr (.inr 43)] σ _
        refine jw_W_n 2 (i' := 26) (ls' := [some (.inr (.inr 42)), some (.inl (jk_h b m (σ 43 0))), none, none]) (st' := [.inr (.inr 42), .inl 4, .inr (.inr 43)]) rfl ?_
        refine jw_W_gf rfl rfl rfl ?_
        show jw_W (js_S n) _ md_47 27 [some (.inr (.inr 42)), some (.inl (jk_h b m (σ 43 0))), none, none] [.inr (.inr 43), .inl 4, .inr (.inr 43)] σ _
        refine jw_W_gf rfl rfl rfl ?_
        show jw_W (js_S n) _ md_47 28 [some (.inr (.inr 42)), some (.inl (jk_h b m (σ 43 0))), none, none] [.inl (σ 43 0), .inl 4, .inr (.inr 43)] σ _
        refine jw_W_call (as := [.inr (.inr 43), .inl 4, .inl (σ 43 0)]) (rest := []) rfl rfl rfl rfl (Nat.le_of_ble_eq_true rfl) (.inr rfl) (jl_fail hX (by omega) (by omega)) (by omega) ?_ rfl
        rintro r1 σz ⟨rfl, hE1, h10, h12⟩
        rename jw_H => σ1b
        have r12 := hE1.1.2.2.2.2.1
        have hbad : σ1b 43 2 ≠ 0 := by
          by_cases hz : σ 43 2 = 0
          · rw [h12 hz]
            omega
          · rw [hE1.2.1.2.2.1 hz]
            exact hz
        show jw_W (js_S n) _ md_47 29 [some (.inr (.inr 42)), some (.inl (jk_h b m (σ 43 0))), none, none] [] σ1b _
        refine jw_W_n 1 (i' := 30) (ls' := [some (.inr (.inr 42)), some (.inl (jk_h b m (σ 43 0))), none, none]) (st' := [.inr (.inr 42)]) rfl ?_
        refine jw_W_gf rfl rfl rfl ?_
        show jw_W (js_S n) _ md_47 31 [some (.inr (.inr 42)), some (.inl (jk_h b m (σ 43 0))), none, none] [.inr (.inr 43)] σ1b _
        refine jw_W_gf rfl rfl rfl ?_
        show jw_W (js_S n) _ md_47 32 [some (.inr (.inr 42)), some (.inl (jk_h b m (σ 43 0))), none, none] [.inl (σ1b 43 2)] σ1b _
        refine jw_W_if rfl (by unfold jw_rg; omega) (fun hc30 => ?_) (fun hc30 => ?_)
        · have hc30 : (σ1b 43 2) = 0 := hc30
          exfalso; omega
        · have hc30 : ¬ ((σ1b 43 2) = 0) := hc30
          refine jw_W_re rfl ?_
          refine ⟨rfl, hE1.1, jl_DR_E hE1, fun hz => ?_, fun h => by rw [hE1.2.2]; exact h⟩
          rw [jl_rl_2 (by omega) (by omega)]
          exact ⟨h12 hz, fun hn => absurd hn (by show -1000 * _ - σ 43 0 ≠ 0; omega)⟩
    · have hc16 : ¬ ((jk_h b m (σ 43 0)) = 120) := hc16
      refine jw_W_n 1 (i' := 11) (ls' := [some (.inr (.inr 42)), some (.inl (jk_h b m (σ 43 0))), none, none]) (st' := [.inr (.inr 42)]) rfl ?_
      refine jw_W_gf rfl rfl rfl ?_
      show jw_W (js_S n) _ md_47 12 [some (.inr (.inr 42)), some (.inl (jk_h b m (σ 43 0))), none, none] [.inr (.inr 43)] σ _
      refine jw_W_n 2 (i' := 14) (ls' := [some (.inr (.inr 42)), some (.inl (jk_h b m (σ 43 0))), none, none]) (st' := [.inr (.inr 42), .inl 1, .inr (.inr 43)]) rfl ?_
      refine jw_W_gf rfl rfl rfl ?_
      show jw_W (js_S n) _ md_47 15 [some (.inr (.inr 42)), some (.inl (jk_h b m (σ 43 0))), none, none] [.inr (.inr 43), .inl 1, .inr (.inr 43)] σ _
      refine jw_W_gf rfl rfl rfl ?_
      show jw_W (js_S n) _ md_47 16 [some (.inr (.inr 42)), some (.inl (jk_h b m (σ 43 0))), none, none] [.inl (σ 43 0), .inl 1, .inr (.inr 43)] σ _
      refine jw_W_call (as := [.inr (.inr 43), .inl 1, .inl (σ 43 0)]) (rest := []) rfl rfl rfl rfl (Nat.le_of_ble_eq_true rfl) (.inr rfl) (jl_fail hX (by omega) (by omega)) (by omega) ?_ rfl
      rintro r1 σ1 ⟨rfl, hE1, h10, h12⟩
      rename jw_H => σ1
      have r12 := hE1.1.2.2.2.2.1
      have hbad : σ1 43 2 ≠ 0 := by
        by_cases hz : σ 43 2 = 0
        · rw [h12 hz]
          omega
        · rw [hE1.2.1.2.2.1 hz]
          exact hz
      show jw_W (js_S n) _ md_47 17 [some (.inr (.inr 42)), some (.inl (jk_h b m (σ 43 0))), none, none] [] σ1 _
      refine jw_W_n 2 (i' := 30) (ls' := [some (.inr (.inr 42)), some (.inl (jk_h b m (σ 43 0))), none, none]) (st' := [.inr (.inr 42)]) rfl ?_
      refine jw_W_gf rfl rfl rfl ?_
      show jw_W (js_S n) _ md_47 31 [some (.inr (.inr 42)), some (.inl (jk_h b m (σ 43 0))), none, none] [.inr (.inr 43)] σ1 _
      refine jw_W_gf rfl rfl rfl ?_
      show jw_W (js_S n) _ md_47 32 [some (.inr (.inr 42)), some (.inl (jk_h b m (σ 43 0))), none, none] [.inl (σ1 43 2)] σ1 _
      refine jw_W_if rfl (by unfold jw_rg; omega) (fun hc31 => ?_) (fun hc31 => ?_)
      · have hc31 : (σ1 43 2) = 0 := hc31
        exfalso; omega
      · have hc31 : ¬ ((σ1 43 2) = 0) := hc31
        refine jw_W_re rfl ?_
        refine ⟨rfl, hE1.1, jl_DR_E hE1, fun hz => ?_, fun h => by rw [hE1.2.2]; exact h⟩
        rw [jl_rl_1 (by omega)]
        exact ⟨h12 hz, fun hn => absurd hn (by show -1000 * _ - σ 43 0 ≠ 0; omega)⟩

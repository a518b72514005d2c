/-! ===== the law, the class: rules, replace, ask ===== -/
/-- the rules behind the first: fault, place, what they say -/
def jl_rls (b : Int → Int) (m : Int) : Nat → Int × Int × List jl_Q → Int × Int × List jl_Q
  | 0, R => R
  | f + 1, R => if R.1 = 0 ∧ R.2.1 < m then (if jk_h b m R.2.1 ≠ 59 then (-1000 * 1 - R.2.1, 0, []) else jl_rls b m f ((jl_rl b m (R.2.2.length : Int) (R.2.1 + 1)).1, (jl_rl b m (R.2.2.length : Int) (R.2.1 + 1)).2.1, R.2.2 ++ [(jl_rl b m (R.2.2.length : Int) (R.2.1 + 1)).2.2])) else R
/-- the whole law -/
def jl_law (b : Int → Int) (m : Int) : Int × Int × List jl_Q := jl_rls b m 300 ((jl_rl b m 0 0).1, (jl_rl b m 0 0).2.1, [(jl_rl b m 0 0).2.2])
/-- what the rules do, in their order -/
def jl_do (e : Int → Int) (L : List jl_Q) (w : Int × Int × Int) : Int × Int × Int := L.foldl (fun w q => jl_ef e q w) w
section JLZ
variable {b : Int → Int} {m i c : Int}
theorem jl_rls_no {R : Int × Int × List jl_Q} (h : ¬ (R.1 = 0 ∧ R.2.1 < m)) : ∀ f, jl_rls b m f R = R
  | 0 => rfl
  | f + 1 => if_neg h
theorem jl_rls_bad {R : Int × Int × List jl_Q} (h : R.1 = 0 ∧ R.2.1 < m) (h2 : jk_h b m R.2.1 ≠ 59) (f : Nat) : jl_rls b m (f + 1) R = (-1000 * 1 - R.2.1, 0, []) := (if_pos h).trans (if_pos h2)
theorem jl_rls_go {R : Int × Int × List jl_Q} (h : R.1 = 0 ∧ R.2.1 < m) (h2 : jk_h b m R.2.1 = 59) (f : Nat) : jl_rls b m (f + 1) R = jl_rls b m f ((jl_rl b m (R.2.2.length : Int) (R.2.1 + 1)).1, (jl_rl b m (R.2.2.length : Int) (R.2.1 + 1)).2.1, R.2.2 ++ [(jl_rl b m (R.2.2.length : Int) (R.2.1 + 1)).2.2]) := (if_pos h).trans (if_neg (not_not_intro h2))
theorem jl_rl_ok (i0 : 0 ≤ i) (h : (jl_rl b m c i).1 = 0) : (i < (jl_rl b m c i).2.1 ∧ (jl_rl b m c i).2.1 ≤ m) ∧ c < 16 := by
  by_cases h1 : jk_h b m i = 118 ∨ jk_h b m i = 120
  · have hl := jk_h_lt (b := b) (m := m) (i := i) (by omega)
    by_cases h2 : 16 ≤ c
    · rw [jl_rl_2 h1 h2] at h
      have h3 : -1000 * 4 - i = 0 := h
      omega
    · obtain ⟨V, hV⟩ : ∃ V, jl_Vr b m (jk_h b m i) i = V := ⟨_, rfl⟩
      by_cases g3 : V.1 = 0
      · have o3 : i < V.2.1 ∧ V.2.1 ≤ m := by
          unfold jl_Vr at hV
          by_cases hx : jk_h b m i = 118
          · rw [if_pos hx] at hV
            rw [← hV] at g3 ⊢
            have := jl_ok_S (b := b) (m := m) 6 (i := i + 1) (by omega) g3
            omega
          · rw [if_neg hx] at hV
            rw [← hV]
            show i < i + 1 ∧ i + 1 ≤ m
            omega
        by_cases g4 : jk_h b m V.2.1 = 40
        · obtain ⟨C, hC⟩ : ∃ C, jl_cnd b m (jl_T b m 5) (V.2.1 + 1) = C := ⟨_, rfl⟩
          by_cases g5 : C.1 = 0
          · have o5 := jl_ok_cnd (b := b) (m := m) (T := jl_T b m 5) (fun i h => jl_ok_T 5 h) (i := V.2.1 + 1) (by omega)
            rw [hC] at o5
            have o6 := o5 g5
            by_cases g6 : jk_h b m C.2.1 = 41
            · have hl6 := jk_h_lt (b := b) (m := m) (i := C.2.1) (by omega)
              rw [jl_rl_7 h1 h2 hV g3 g4 hC g5 g6]
              show (i < C.2.1 + 1 ∧ C.2.1 + 1 ≤ m) ∧ c < 16
              omega
            · rw [jl_rl_6 h1 h2 hV g3 g4 hC g5 g6] at h
              have h3 : -1000 * 1 - C.2.1 = 0 := h
              omega
          · rw [jl_rl_5 h1 h2 hV g3 g4 hC g5] at h
            exact absurd h g5
        · rw [jl_rl_4 h1 h2 hV g3 g4] at h
          have h3 : -1000 * 1 - V.2.1 = 0 := h
          omega
      · rw [jl_rl_3 h1 h2 hV g3] at h
        exact absurd h g3
  · rw [jl_rl_1 h1] at h
    have h3 : -1000 * 1 - i = 0 := h
    omega
theorem jl_do_snoc (e : Int → Int) (L : List jl_Q) (q : jl_Q) (w : Int × Int × Int) : jl_do e (L ++ [q]) w = jl_ef e q (jl_do e L w) := by
  unfold jl_do
  rw [List.foldl_append]
  rfl
theorem jl_ef_8 {e : Int → Int} {q : jl_Q} {w : Int × Int × Int} (h : w.2.2 = 0 ∨ w.2.2 = 1) : (jl_ef e q w).2.2 = 0 ∨ (jl_ef e q w).2.2 = 1 := by
  unfold jl_ef
  repeat' split
  all_goals first | exact h | exact .inr rfl
end JLZ
/-- where the class stands within the rules: w0 as it began -/
def jl_at (b : Int → Int) (m : Int) (e : Int → Int) (w0 : Int × Int × Int) (R : Int × Int × List jl_Q) (τ : jw_H) : Prop := τ 43 2 = R.1 ∧ (R.1 = 0 → τ 43 0 = R.2.1 ∧ τ 42 7 = (R.2.2.length : Int) ∧ (R.2.2.length : Int) ≤ 16 ∧ (τ 42 1, τ 42 2, τ 42 8) = jl_do e R.2.2 w0)
def jl_DF (σ σ' : jw_H) : Prop := (∀ c, c ≠ 42 → c ≠ 43 → σ' c = σ c) ∧ ∀ j, j ≠ 1 → j ≠ 2 → j ≠ 7 → j ≠ 8 → j ≠ 9 → σ' 42 j = σ 42 j
theorem jl_DF_tr {σ σ' σ'' : jw_H} (h : jl_DF σ σ') (k : jl_DF σ' σ'') : jl_DF σ σ'' := ⟨fun c h1 h2 => (k.1 c h1 h2).trans (h.1 c h1 h2), fun j h1 h2 h3 h4 h5 => (k.2 j h1 h2 h3 h4 h5).trans (h.2 j h1 h2 h3 h4 h5)⟩
theorem jl_DF_R {σ σ' : jw_H} (h : jl_DR σ σ') : jl_DF σ σ' := ⟨h.1, h.2.1⟩
theorem jl_rules_loop {n : Nat} {σ : jw_H} {b : Int → Int} {m : Int} {e : Int → Int} {w0 : Int × Int × Int} (hm : m ≤ 240) : ∀ (f : Nat) {R : Int × Int × List jl_Q} {τ : jw_H} {l : Int}, jl_X b m e τ → jl_DF σ τ → jl_at b m e w0 R τ → (τ 42 8 = 0 ∨ τ 42 8 = 1) → (τ 43 2 = 0 → 0 ≤ τ 42 7 ∧ τ 42 7 ≤ 16) → (R.1 = 0 → m < R.2.1 + f) → 1 ≤ l → l ≤ 241 → (R.1 = 0 → l ≤ R.2.1) → jw_W (js_S n) 28 md_46 7 [some (.inr (.inr 42)), some (.inl l)] [] τ (fun r σ' => r = none ∧ jl_X b m e σ' ∧ jl_DF σ σ' ∧ jl_at b m e w0 (jl_rls b m f R) σ' ∧ (σ' 42 8 = 0 ∨ σ' 42 8 = 1))
  | f, R, τ, l, hX, hD, hat, h8, h7c, hfu, l1, l9, hl => by
    have em := hX.2.1
    have h4 := hX.2.2.1
    have h5 := hX.2.2.2.1
    have h6 := hX.2.2.2.2.1
    have h11 := hat.1
    have stop : ¬ (l ≤ 240 ∧ τ 43 2 = 0 ∧ τ 43 0 < τ 43 1) → jl_X b m e τ ∧ jl_DF σ τ ∧ jl_at b m e w0 (jl_rls b m f R) τ ∧ (τ 42 8 = 0 ∨ τ 42 8 = 1) := by
      intro hn
      rw [jl_rls_no (fun hh => hn ?_) f]
      · exact ⟨hX, hD, hat, h8⟩
      · have h1 := (hat.2 hh.1).1
        have h2 := hl hh.1
        omega
    have go : ∀ {σ1 σ2 : jw_H}, jl_E b m e τ σ1 → jl_exq b m 59 τ σ1 → jl_rr b m e σ1 σ2 → τ 43 2 = 0 → τ 43 0 < τ 43 1 → jw_W (js_S n) 28 md_46 7 [some (.inr (.inr 42)), some (.inl (l + 1))] [] σ2 (fun r σ' => r = none ∧ jl_X b m e σ' ∧ jl_DF σ σ' ∧ jl_at b m e w0 (jl_rls b m f R) σ' ∧ (σ' 42 8 = 0 ∨ σ' 42 8 = 1)) := by
      intro σ1 σ2 hE1 hx1 hrr hz hlt
      obtain ⟨hX2, hD2, h22, h82⟩ := hrr
      have e8 := h82 (by rw [hE1.2.2]; exact h8)
      have hz1 : R.1 = 0 := by omega
      obtain ⟨a1, a2, a3, a4⟩ := hat.2 hz1
      have hl1 := hl hz1
      have hf1 := hfu hz1
      have hDD := jl_DF_tr hD (jl_DF_tr (jl_DF_R (jl_DR_E hE1)) (jl_DF_R hD2))
      have h78 := h7c hz
      match f, hf1 with
      | 0, hf1 => omega
      | f + 1, hf1 =>
        rcases hx1 with ⟨u1, u2, u3⟩ | ⟨u1, u2⟩
        · obtain ⟨v1, v2⟩ := h22 (u2.trans hz)
          rw [hE1.2.2, u3, a1, a2] at v1 v2
          rw [jl_rls_go ⟨hz1, by omega⟩ (by rw [← a1]; exact u1) f]
          have hgt := jl_rl_ok (b := b) (m := m) (c := (R.2.2.length : Int)) (i := R.2.1 + 1) (by omega)
          by_cases hq : (jl_rl b m (R.2.2.length : Int) (R.2.1 + 1)).1 = 0
          · obtain ⟨x1, x2, x3⟩ := v2 hq
            have hg := hgt hq
            have e3 : (σ2 42 1, σ2 42 2, σ2 42 8) = jl_do e (R.2.2 ++ [(jl_rl b m (R.2.2.length : Int) (R.2.1 + 1)).2.2]) w0 := by
              rw [jl_do_snoc, x3, ← a4]
            refine jl_rules_loop hm f hX2 hDD ⟨v1, fun _ => ⟨x1, ?_, ?_, e3⟩⟩ e8 (fun _ => by omega) (fun _ => ?_) (by omega) (by omega) (fun _ => ?_)
            · show σ2 42 7 = ((R.2.2 ++ [(jl_rl b m (R.2.2.length : Int) (R.2.1 + 1)).2.2]).length : Int)
              rw [List.length_append, x2]
              rfl
            · show ((R.2.2 ++ [(jl_rl b m (R.2.2.length : Int) (R.2.1 + 1)).2.2]).length : Int) ≤ 16
              rw [List.length_append]
              show ((R.2.2.length + 1 : Nat) : Int) ≤ 16
              omega
            · show m < (jl_rl b m (R.2.2.length : Int) (R.2.1 + 1)).2.1 + (f : Int)
              omega
            · show l + 1 ≤ (jl_rl b m (R.2.2.length : Int) (R.2.1 + 1)).2.1
              omega
          · exact jl_rules_loop hm f hX2 hDD ⟨v1, fun h => absurd h hq⟩ e8 (fun h => absurd (v1.symm.trans h) hq) (fun h => absurd h hq) (by omega) (by omega) (fun h => absurd h hq)
        · have e := u2 hz
          have e2 := (hD2.2.2.1 (by omega)).1
          rw [e, a1] at e2
          have hF : -1000 * 1 - R.2.1 ≠ 0 := by omega
          have hw := jl_rules_loop (n := n) (w0 := w0) hm f (R := (-1000 * 1 - R.2.1, 0, [])) hX2 hDD ⟨e2, fun h => absurd h hF⟩ e8 (fun h => absurd (e2.symm.trans h) hF) (fun h => absurd h hF) (l := l + 1) (by omega) (by omega) (fun h => absurd h hF)
          rw [jl_rls_no (fun hh => absurd hh.1 hF) f] at hw
          rw [jl_rls_bad ⟨hz1, by omega⟩ (by rw [← a1]; exact u1) f]
          exact hw
    refine jw_W_n 2 (i' := 9) (ls' := [some (.inr (.inr 42)), some (.inl l)]) (st' := [.inl 240, .inl l]) rfl ?_
    refine jw_W_ic rfl (by unfold jw_rg; omega) (by unfold jw_rg; omega) (fun hc1 => ?_) (fun hc1 => ?_)
    · have hc1 : l > 240 := hc1
      refine jw_W_re rfl ?_
      exact ⟨rfl, stop (by omega)⟩
    · have hc1 : ¬ (l > 240) := hc1
      refine jw_W_n 1 (i' := 11) (ls' := [some (.inr (.inr 42)), some (.inl l)]) (st' := [.inr (.inr 42)]) rfl ?_
      refine jw_W_gf rfl rfl rfl ?_
      show jw_W (js_S n) _ md_46 12 [some (.inr (.inr 42)), some (.inl l)] [.inr (.inr 43)] τ _
      refine jw_W_gf rfl rfl rfl ?_
      show jw_W (js_S n) _ md_46 13 [some (.inr (.inr 42)), some (.inl l)] [.inl (τ 43 2)] τ _
      refine jw_W_if rfl (by unfold jw_rg; omega) (fun hc2 => ?_) (fun hc2 => ?_)
      · have hc2 : (τ 43 2) ≠ 0 := hc2
        refine jw_W_re rfl ?_
        exact ⟨rfl, stop (by omega)⟩
      · have hc2 : (τ 43 2) = 0 := Classical.not_not.mp hc2
        have h7 := h7c (by omega)
        refine jw_W_n 1 (i' := 15) (ls' := [some (.inr (.inr 42)), some (.inl l)]) (st' := [.inr (.inr 42)]) rfl ?_
        refine jw_W_gf rfl rfl rfl ?_
        show jw_W (js_S n) _ md_46 16 [some (.inr (.inr 42)), some (.inl l)] [.inr (.inr 43)] τ _
        refine jw_W_gf rfl rfl rfl ?_
        show jw_W (js_S n) _ md_46 17 [some (.inr (.inr 42)), some (.inl l)] [.inl (τ 43 0)] τ _
        refine jw_W_n 1 (i' := 18) (ls' := [some (.inr (.inr 42)), some (.inl l)]) (st' := [.inr (.inr 42), .inl (τ 43 0)]) rfl ?_
        refine jw_W_gf rfl rfl rfl ?_
        show jw_W (js_S n) _ md_46 19 [some (.inr (.inr 42)), some (.inl l)] [.inr (.inr 43), .inl (τ 43 0)] τ _
        refine jw_W_gf rfl rfl rfl ?_
        show jw_W (js_S n) _ md_46 20 [some (.inr (.inr 42)), some (.inl l)] [.inl (τ 43 1), .inl (τ 43 0)] τ _
        refine jw_W_ic rfl (by unfold jw_rg; omega) (by unfold jw_rg; omega) (fun hc3 => ?_) (fun hc3 => ?_)
        · have hc3 : (τ 43 0) ≥ (τ 43 1) := hc3
          refine jw_W_re rfl ?_
          exact ⟨rfl, stop (by omega)⟩
        · have hc3 : ¬ ((τ 43 0) ≥ (τ 43 1)) := hc3
          refine jw_W_n 1 (i' := 22) (ls' := [some (.inr (.inr 42)), some (.inl l)]) (st' := [.inr (.inr 42)]) rfl ?_
          refine jw_W_gf rfl rfl rfl ?_
          show jw_W (js_S n) _ md_46 23 [some (.inr (.inr 42)), some (.inl l)] [.inr (.inr 43)] τ _
          refine jw_W_n 1 (i' := 24) (ls' := [some (.inr (.inr 42)), some (.inl l)]) (st' := [.inl 59, .inr (.inr 43)]) rfl ?_
          refine jw_W_call (as := [.inr (.inr 43), .inl 59]) (rest := []) rfl rfl rfl rfl (Nat.le_of_ble_eq_true rfl) (.inr rfl) (jl_expect hX (x := 59) (by omega)) (by omega) ?_ rfl
          rintro r1 σ1 ⟨rfl, hE1, h12⟩
          rename jw_H => σ1
          have hX1 := hE1.1
          have hx1 : jl_exq b m 59 τ σ1 := h12
          clear h12
          show jw_W (js_S n) _ md_46 25 [some (.inr (.inr 42)), some (.inl l)] [] σ1 _
          refine jw_W_n 1 (i' := 26) (ls' := [some (.inr (.inr 42)), some (.inl l)]) (st' := [.inr (.inr 42)]) rfl ?_
          refine jw_W_call (as := [.inr (.inr 42)]) (rest := []) rfl rfl rfl rfl (Nat.le_of_ble_eq_true rfl) (.inr rfl) (jl_readRule hX1 (by rw [hE1.2.2]; exact h7) (by rw [hE1.2.2]; exact h8)) (by omega) ?_ rfl
          rintro r1 σ2 ⟨rfl, hrr⟩
          rename jw_H => σ2
          show jw_W (js_S n) _ md_46 27 [some (.inr (.inr 42)), some (.inl l)] [] σ2 _
          refine jw_W_n 2 (i' := 7) (ls' := [some (.inr (.inr 42)), some (.inl (l + 1))]) (st' := []) rfl ?_
          exact go hE1 hx1 hrr (by omega) (by omega)
theorem jl_readRules {n : Nat} {σ : jw_H} {b : Int → Int} {m : Int} {e : Int → Int} (hX : jl_X b m e σ) (hm : m ≤ 240) (hz : σ 43 2 = 0) (h0 : σ 43 0 = 0) (h8 : σ 42 8 = 0 ∨ σ 42 8 = 1) : jw_T (js_S n) 29 46 [.inr (.inr 42)] σ (fun r σ' => r = none ∧ jl_X b m e σ' ∧ jl_DF σ σ' ∧ jl_at b m e (σ 42 1, σ 42 2, σ 42 8) (jl_law b m) σ' ∧ (σ' 42 8 = 0 ∨ σ' 42 8 = 1)) := by
  refine jw_T_of (D := 28) (M := mm_46) rfl (Nat.le_of_ble_eq_true rfl) (ls0 := [some (.inr (.inr 42)), none]) rfl ?_ (by rintro _ _ ⟨rfl, -⟩; rfl)
  have h4 := hX.2.2.1
  have h5 := hX.2.2.2.1
  refine jw_W_n 2 (i' := 2) (ls' := [some (.inr (.inr 42)), none]) (st' := [.inl 0, .inr (.inr 42)]) rfl ?_
  refine jw_W_pf (a := 0) rfl (by omega) rfl rfl rfl rfl rfl ?_
  obtain ⟨σ1, hs1⟩ : ∃ s : jw_H, s = jw_up σ 42 7 0 := ⟨_, rfl⟩
  show jw_W (js_S n) _ _ _ _ _ (jw_up σ 42 7 0) _
  rw [← hs1]
  have hX1 : jl_X b m e σ1 := by rw [hs1]; exact jl_X_f hX (by omega)
  have e7 : σ1 42 7 = 0 := by rw [hs1]; exact jw_up_eq _ _ _ _
  have jj : ∀ j, j ≠ 7 → σ1 42 j = σ 42 j := fun j hj => by rw [hs1, jw_up_ne _ (by omega)]
  have e43 : σ1 43 = σ 43 := by rw [hs1, jw_up_out _ _ _ (by omega)]
  have hF1 : jl_DF σ σ1 := ⟨fun c d1 _ => by rw [hs1, jw_up_out _ _ _ d1], fun j _ _ d3 _ _ => jj j d3⟩
  refine jw_W_n 1 (i' := 4) (ls' := [some (.inr (.inr 42)), none]) (st' := [.inr (.inr 42)]) rfl ?_
  refine jw_W_call (as := [.inr (.inr 42)]) (rest := []) rfl rfl rfl rfl (Nat.le_of_ble_eq_true rfl) (.inr rfl) (jl_readRule hX1 (by omega) (by rw [jj 8 (by omega)]; exact h8)) (by omega) ?_ rfl
  rintro r1 σ2 ⟨rfl, hX2, hD2, h22, h82⟩
  rename jw_H => σ2
  show jw_W (js_S n) _ md_46 5 [some (.inr (.inr 42)), none] [] σ2 _
  refine jw_W_n 2 (i' := 7) (ls' := [some (.inr (.inr 42)), some (.inl 1)]) (st' := []) rfl ?_
  obtain ⟨v1, v2⟩ := h22 (by rw [e43]; exact hz)
  rw [e7, show σ1 43 0 = 0 by rw [e43]; exact h0] at v1 v2
  have hgt := jl_rl_ok (b := b) (m := m) (c := 0) (i := 0) (by omega)
  refine jl_rules_loop (w0 := (σ 42 1, σ 42 2, σ 42 8)) hm 300 (R := ((jl_rl b m 0 0).1, (jl_rl b m 0 0).2.1, [(jl_rl b m 0 0).2.2])) hX2 (jl_DF_tr hF1 (jl_DF_R hD2)) ⟨v1, fun hq => ⟨(v2 hq).1, by rw [(v2 hq).2.1]; rfl, show (1 : Int) ≤ 16 by omega, ?_⟩⟩ (h82 (by rw [jj 8 (by omega)]; exact h8)) (fun hz2 => by have := (v2 (v1.symm.trans hz2)).2.1; omega) (fun hq => by have := hgt hq; show m < (jl_rl b m 0 0).2.1 + ((300 : Nat) : Int); omega) (by omega) (by omega) (fun hq => by have := hgt hq; show 1 ≤ (jl_rl b m 0 0).2.1; omega)
  rw [(v2 hq).2.2, jj 1 (by omega), jj 2 (by omega), jj 8 (by omega)]
  rfl

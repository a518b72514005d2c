/-! ===== spelt: class and reference ===== -/
theorem jn_ldv {x y : Int} (x0 : 0 ≤ x) (x1 : x ≤ 9223372036854775807) (y0 : 0 < y) (y1 : y ≤ 9223372036854775807) : jw_ldiv x y = x / y := by
  rw [jm_ldiv (by unfold jw_rgl; omega) (by unfold jw_rgl; omega) (by omega), Int.tdiv_eq_ediv_of_nonneg x0]
/-- a number's digits -/
def jn_dg (v : Int) : List Int := if v < 10 then [48 + v % 10] else if v < 100 then [48 + v / 10 % 10, 48 + v % 10] else if v < 1000 then [48 + v / 100 % 10, 48 + v / 10 % 10, 48 + v % 10] else [48 + v / 1000 % 10, 48 + v / 100 % 10, 48 + v / 10 % 10, 48 + v % 10]
theorem jn_dg_len (v : Int) : (jn_dg v).length ≤ 4 := by
  unfold jn_dg
  split
  · simp
  · split
    · simp
    · split <;> simp
/-- a text of class, of reference -/
def jn_tl (o : Nat) (f : Nat) (j : Int) (σ : jw_H) (L : List Int) : Prop := σ f j = (L.length : Int) ∧ ∀ (k : Nat) (x : Int), L[k]? = some x → σ o (k : Int) = x
theorem jn_tl_add {o f : Nat} {j c : Int} {σ : jw_H} {L : List Int} (hof : o ≠ f) (h : jn_tl o f j σ L) : jn_tl o f j (jw_up (jw_up σ o (σ f j) c) f j (σ f j + 1)) (L ++ [c]) := by
  refine ⟨?_, fun k x hx => ?_⟩
  · rw [jw_up_eq, h.1, List.length_append, List.length_singleton]
    omega
  · rw [jw_up_ne _ (by omega)]
    by_cases hk : k < L.length
    · rw [List.getElem?_append_left hk] at hx
      rw [jw_up_ne _ (by have := h.1; omega)]
      exact h.2 k x hx
    · rw [List.getElem?_append_right (by omega)] at hx
      have hk2 : k = L.length := by
        by_cases e : k - L.length = 0
        · omega
        · obtain ⟨z, hz⟩ : ∃ z, k - L.length = z + 1 := ⟨k - L.length - 1, by omega⟩
          rw [hz] at hx
          cases hx
      rw [hk2, Nat.sub_self] at hx
      cases hx
      rw [hk2, ← h.1]
      exact jw_up_eq _ _ _ _
def jn_fx (u l : Int) : List Int := jn_dg u ++ if l = 1 then [] else 47 :: jn_dg l
theorem jn_fx_len (u l : Int) : (jn_fx u l).length ≤ 9 := by
  unfold jn_fx
  have h1 := jn_dg_len u
  have h2 := jn_dg_len l
  split
  · simp
    omega
  · simp
    omega
/-- a corner as a text, its first quantities -/
def jn_tx (σ : jw_H) (i : Int) : Nat → List Int
  | 0 => []
  | q + 1 => (jn_tx σ i q ++ if q = 0 then [] else [44]) ++ jn_fx (jm_of (jm_cc σ i (q : Int)) (σ 135 i) 0) (jm_of (jm_cc σ i (q : Int)) (σ 135 i) 1)
theorem jn_tx_len (σ : jw_H) (i : Int) : ∀ q : Nat, (jn_tx σ i q).length ≤ 10 * q
  | 0 => by simp [jn_tx]
  | q + 1 => by
    have h := jn_tx_len σ i q
    have h2 := jn_fx_len (jm_of (jm_cc σ i (q : Int)) (σ 135 i) 0) (jm_of (jm_cc σ i (q : Int)) (σ 135 i) 1)
    unfold jn_tx
    rw [List.length_append, List.length_append]
    split
    · simp
      omega
    · simp
      omega
theorem jn_tx_me {σ0 σ : jw_H} (h132 : σ 132 = σ0 132) (h133 : σ 133 = σ0 133) (h134 : σ 134 = σ0 134) (h135 : σ 135 = σ0 135) (i : Int) : ∀ q : Nat, jn_tx σ i q = jn_tx σ0 i q
  | 0 => rfl
  | q + 1 => by
    unfold jn_tx jm_cc
    rw [jn_tx_me h132 h133 h134 h135 i q, h132, h133, h134, h135]
/-- the answer of spelt -/
def jn_spa (σ : jw_H) (i t v : Int) : Prop := (v = -1 ∧ ¬ (0 ≤ i ∧ 0 ≤ t)) ∨ ((0 ≤ i ∧ 0 ≤ t) ∧ ((v = -4 ∧ σ 103 56 ≤ i) ∨ (i < σ 103 56 ∧ ((v = -2 ∧ ((jn_tx σ i (σ 103 3).toNat).length : Int) ≤ t) ∨ (jn_tx σ i (σ 103 3).toNat)[t.toNat]? = some v))))
theorem jn_spa_uq {σ : jw_H} {i t u v : Int} (h1 : jn_spa σ i t u) (h2 : jn_spa σ i t v) : u = v := by
  rcases h1 with ⟨e1, a1⟩ | ⟨a1, ⟨e1, b1⟩ | ⟨b1, ⟨e1, c1⟩ | c1⟩⟩ <;> rcases h2 with ⟨e2, a2⟩ | ⟨a2, ⟨e2, b2⟩ | ⟨b2, ⟨e2, c2⟩ | c2⟩⟩ <;> first | exact e1.trans e2.symm | exact absurd a1 a2 | exact absurd a2 a1 | omega | (have := (List.getElem?_eq_some_iff.mp c2).1; omega) | (have := (List.getElem?_eq_some_iff.mp c1).1; omega) | (rw [c1] at c2; exact Option.some.inj c2)
theorem jn_spa_me {σ0 σ : jw_H} (h : jx_me σ0 σ) (i t v : Int) : jn_spa σ i t v ↔ jn_spa σ0 i t v := by
  unfold jn_spa
  rw [jn_tx_me (h 132 (by omega)) (h 133 (by omega)) (h 134 (by omega)) (h 135 (by omega)), h 103 (by omega)]
theorem jn_of0 {u l B : Int} (l0 : 0 < l) (l1 : l ≤ 162) (u0 : 0 ≤ u) (u1 : u ≤ B) : 0 ≤ jm_of u l 0 ∧ jm_of u l 0 ≤ B := by
  unfold jm_of
  rw [if_pos rfl]
  exact ⟨Int.ediv_nonneg u0 (by omega), Int.le_trans (Int.ediv_le_self _ u0) u1⟩
/-- what writing leaves as it was: of class, of reference -/
def jn_wf (σ0 σ : jw_H) : Prop := (∀ c, c ≠ 13 → c ≠ 102 → σ c = σ0 c) ∧ ∀ j, j ≠ 16 → σ 13 j = σ0 13 j
def jn_wg (σ0 σ : jw_H) : Prop := (∀ c, c ≠ 103 → c ≠ 143 → σ c = σ0 c) ∧ ∀ j, j ≠ 73 → σ 103 j = σ0 103 j
theorem jn_wf_tr {σ σ1 σ2 : jw_H} (a : jn_wf σ σ1) (b : jn_wf σ1 σ2) : jn_wf σ σ2 := ⟨fun c h1 h2 => (b.1 c h1 h2).trans (a.1 c h1 h2), fun j h => (b.2 j h).trans (a.2 j h)⟩
theorem jn_wg_tr {σ σ1 σ2 : jw_H} (a : jn_wg σ σ1) (b : jn_wg σ1 σ2) : jn_wg σ σ2 := ⟨fun c h1 h2 => (b.1 c h1 h2).trans (a.1 c h1 h2), fun j h => (b.2 j h).trans (a.2 j h)⟩
theorem jn_wf_fy {σ0 σ : jw_H} (h : jn_wf σ0 σ) : jx_fy σ0 σ := ⟨fun c h1 h2 => h.1 c h1 (by omega), h.2⟩
theorem jn_wf_up {σ : jw_H} {k v w : Int} : jn_wf σ (jw_up (jw_up σ 102 k v) 13 16 w) := by
  refine ⟨fun c h1 h2 => ?_, fun j hj => ?_⟩
  · rw [jw_up_out _ _ _ (by omega), jw_up_out _ _ _ (by omega)]
  · rw [jw_up_ne _ (by omega), jw_up_ne _ (by omega)]
theorem jn_wg_up {σ : jw_H} {k v w : Int} : jn_wg σ (jw_up (jw_up σ 143 k v) 103 73 w) := by
  refine ⟨fun c h1 h2 => ?_, fun j hj => ?_⟩
  · rw [jw_up_out _ _ _ (by omega), jw_up_out _ _ _ (by omega)]
  · rw [jw_up_ne _ (by omega), jw_up_ne _ (by omega)]
theorem jx_write {n : Nat} {σ : jw_H} {L : List Int} {c : Int} (hL : jn_tl 102 13 16 σ L) (hl : L.length < 64) : jw_T (js_S n) 1 158 [.inr (.inr 13), .inl c] σ (fun r σ' => r = none ∧ jn_wf σ σ' ∧ jn_tl 102 13 16 σ' (L ++ [c])) := by
  refine jw_T_of (D := 0) (M := mm_158) rfl (Nat.le_of_ble_eq_true rfl) (ls0 := [some (.inr (.inr 13)), some (.inl c)]) rfl ?_ (by rintro _ _ ⟨rfl, -⟩; rfl)
  have hL1 := hL.1
  refine jw_W_n 1 (i' := 1) (ls' := [some (.inr (.inr 13)), some (.inl c)]) (st' := [.inr (.inr 13)]) rfl ?_
  refine jw_W_gf rfl rfl rfl ?_
  show jw_W (js_S n) _ md_158 2 [some (.inr (.inr 13)), some (.inl c)] [.inl (σ 13 16)] σ _
  refine jw_W_n 1 (i' := 3) (ls' := [some (.inr (.inr 13)), some (.inl c)]) (st' := [.inl 64, .inl (σ 13 16)]) rfl ?_
  refine jw_W_ic rfl (by unfold jw_rg; omega) (by unfold jw_rg; omega) (fun hc1 => ?_) (fun hc1 => ?_)
  · have hc1 : (σ 13 16) ≥ 64 := hc1
    refine jw_W_re rfl ?_
    exfalso
    omega
  · have hc1 : ¬ ((σ 13 16) ≥ 64) := hc1
    refine jw_W_n 1 (i' := 5) (ls' := [some (.inr (.inr 13)), some (.inl c)]) (st' := [.inr (.inr 13)]) rfl ?_
    refine jw_W_gf rfl rfl rfl ?_
    show jw_W (js_S n) _ md_158 6 [some (.inr (.inr 13)), some (.inl c)] [.inr (.inr 102)] σ _
    refine jw_W_n 1 (i' := 7) (ls' := [some (.inr (.inr 13)), some (.inl c)]) (st' := [.inr (.inr 13), .inr (.inr 102)]) rfl ?_
    refine jw_W_gf rfl rfl rfl ?_
    show jw_W (js_S n) _ md_158 8 [some (.inr (.inr 13)), some (.inl c)] [.inl (σ 13 16), .inr (.inr 102)] σ _
    refine jw_W_n 1 (i' := 9) (ls' := [some (.inr (.inr 13)), some (.inl c)]) (st' := [.inl c, .inl (σ 13 16), .inr (.inr 102)]) rfl ?_
    refine jw_W_is rfl (by omega) rfl (by omega) (by omega) (by omega) ?_
    refine jw_W_n 2 (i' := 12) (ls' := [some (.inr (.inr 13)), some (.inl c)]) (st' := [.inr (.inr 13), .inr (.inr 13)]) rfl ?_
    refine jw_W_gf rfl rfl rfl ?_
    show jw_W (js_S n) _ md_158 13 [some (.inr (.inr 13)), some (.inl c)] [.inl (σ 13 16), .inr (.inr 13)] ((jw_up σ 102 (σ 13 16) c)) _
    refine jw_W_n 2 (i' := 15) (ls' := [some (.inr (.inr 13)), some (.inl c)]) (st' := [.inl (σ 13 16 + 1), .inr (.inr 13)]) rfl ?_
    refine jw_W_pf (a := σ 13 16 + 1) rfl (by omega) rfl rfl rfl rfl rfl ?_
    refine jw_W_re rfl ?_
    exact ⟨rfl, jn_wf_up, jn_tl_add (by decide) hL⟩
theorem jm_tells {n : Nat} {σ : jw_H} {L : List Int} {c : Int} (hL : jn_tl 143 103 73 σ L) (hl : L.length < 64) : jw_T (js_S n) 1 328 [.inr (.inr 103), .inl c] σ (fun r σ' => r = none ∧ jn_wg σ σ' ∧ jn_tl 143 103 73 σ' (L ++ [c])) := by
  refine jw_T_of (D := 0) (M := mm_328) rfl (Nat.le_of_ble_eq_true rfl) (ls0 := [some (.inr (.inr 103)), some (.inl c)]) rfl ?_ (by rintro _ _ ⟨rfl, -⟩; rfl)
  have hL1 := hL.1
  refine jw_W_n 1 (i' := 1) (ls' := [some (.inr (.inr 103)), some (.inl c)]) (st' := [.inr (.inr 103)]) rfl ?_
  refine jw_W_gf rfl rfl rfl ?_
  show jw_W (js_S n) _ md_328 2 [some (.inr (.inr 103)), some (.inl c)] [.inr (.inr 143)] σ _
  refine jw_W_n 1 (i' := 3) (ls' := [some (.inr (.inr 103)), some (.inl c)]) (st' := [.inr (.inr 103), .inr (.inr 143)]) rfl ?_
  refine jw_W_gf rfl rfl rfl ?_
  show jw_W (js_S n) _ md_328 4 [some (.inr (.inr 103)), some (.inl c)] [.inl (σ 103 73), .inr (.inr 143)] σ _
  refine jw_W_n 1 (i' := 5) (ls' := [some (.inr (.inr 103)), some (.inl c)]) (st' := [.inl c, .inl (σ 103 73), .inr (.inr 143)]) rfl ?_
  refine jw_W_is rfl (by omega) rfl (by omega) (by omega) (by omega) ?_
  refine jw_W_n 2 (i' := 8) (ls' := [some (.inr (.inr 103)), some (.inl c)]) (st' := [.inr (.inr 103), .inr (.inr 103)]) rfl ?_
  refine jw_W_gf rfl rfl rfl ?_
  show jw_W (js_S n) _ md_328 9 [some (.inr (.inr 103)), some (.inl c)] [.inl (σ 103 73), .inr (.inr 103)] ((jw_up σ 143 (σ 103 73) c)) _
  refine jw_W_n 2 (i' := 11) (ls' := [some (.inr (.inr 103)), some (.inl c)]) (st' := [.inl (σ 103 73 + 1), .inr (.inr 103)]) rfl ?_
  refine jw_W_pf (a := σ 103 73 + 1) rfl (by omega) rfl rfl rfl rfl rfl ?_
  refine jw_W_re rfl ?_
  exact ⟨rfl, jn_wg_up, jn_tl_add (by decide) hL⟩
theorem jx_writeNumber {n : Nat} {σ : jw_H} {L : List Int} {v : Int} (hL : jn_tl 102 13 16 σ L) (hl : L.length + 4 ≤ 64) (v0 : 0 ≤ v) (v1 : v ≤ 1458) : jw_T (js_S n) 2 159 [.inr (.inr 13), .inr (.inl v)] σ (fun r σ' => r = none ∧ jn_wf σ σ' ∧ jn_tl 102 13 16 σ' (L ++ jn_dg v)) := by
  refine jw_T_of (D := 1) (M := mm_159) rfl (Nat.le_of_ble_eq_true rfl) (ls0 := [some (.inr (.inr 13)), some (.inr (.inl v)), none, none, none, none, none, none]) rfl ?_ (by rintro _ _ ⟨rfl, -⟩; rfl)
  refine jw_W_n 2 (i' := 2) (ls' := [some (.inr (.inr 13)), some (.inr (.inl v)), none, none, none, none, none, none]) (st' := [.inr (.inl 0), .inr (.inl v)]) rfl ?_
  refine jw_W_lc rfl rfl (by unfold jw_rgl; omega) (by unfold jw_rgl; omega) (fun hc1 => ?_) (fun hc1 => ?_)
  · have hc1 : v ≥ 0 := hc1
    refine jw_W_n 1 (i' := 8) (ls' := [some (.inr (.inr 13)), some (.inr (.inl v)), none, none, none, none, none, none]) (st' := [.inr (.inl v)]) rfl ?_
    refine jw_W_labs rfl rfl (by unfold jw_rgl; omega) (Nat.le_of_ble_eq_true rfl) ?_
    rw [show (if 0 < v then v else -v) = v from by split <;> omega]
    refine jw_W_n 7 (i' := 16) (ls' := [some (.inr (.inr 13)), some (.inr (.inl v)), none, some (.inr (.inl v)), none, some (.inr (.inl 1)), none, some (.inl 1)]) (st' := [.inl 18, .inl 1]) rfl ?_
    refine jw_W_ic rfl (by unfold jw_rg; omega) (by unfold jw_rg; omega) (fun hc2 => ?_) (fun hc2 => ?_)
    · exact absurd hc2 (show ¬ ((1 : Int) ≥ 18) by omega)
    · clear hc2
      refine jw_W_n 2 (i' := 19) (ls' := [some (.inr (.inr 13)), some (.inr (.inl v)), none, some (.inr (.inl v)), none, some (.inr (.inl 1)), none, some (.inl 1)]) (st' := [.inr (.inl 1), .inr (.inl v)]) rfl ?_
      refine jw_W_ldiv rfl (by unfold jw_rgl; omega) (by omega) ?_
      rw [show jw_ldiv v 1 = v from by rw [jn_ldv (by omega) (by omega) (by omega) (by omega)]; omega]
      refine jw_W_ld2 (z := 10) rfl rfl ?_
      refine jw_W_lc rfl rfl (by unfold jw_rgl; omega) (by unfold jw_rgl; omega) (fun hc3 => ?_) (fun hc3 => ?_)
      · have hc3 : v < 10 := hc3
        refine jw_W_n 2 (i' := 31) (ls' := [some (.inr (.inr 13)), some (.inr (.inl v)), none, some (.inr (.inl v)), none, some (.inr (.inl 1)), none, some (.inl 1)]) (st' := [.inr (.inl 0), .inr (.inl 1)]) rfl ?_
        refine jw_W_lc rfl rfl (by unfold jw_rgl; omega) (by unfold jw_rgl; omega) (fun hc4 => ?_) (fun hc4 => ?_)
        · exact absurd hc4 (show ¬ ((1 : Int) ≤ 0) by omega)
        · clear hc4
          refine jw_W_n 4 (i' := 37) (ls' := [some (.inr (.inr 13)), some (.inr (.inl v)), none, some (.inr (.inl v)), none, some (.inr (.inl 1)), none, some (.inl 1)]) (st' := [.inr (.inl 1), .inr (.inl v), .inl 48, .inr (.inr 13)]) rfl ?_
          refine jw_W_ldiv rfl (by unfold jw_rgl; omega) (by omega) ?_
          rw [show jw_ldiv v 1 = v from by rw [jn_ldv (by omega) (by omega) (by omega) (by omega)]; omega]
          refine jw_W_ld2 (z := 10) rfl rfl ?_
          refine jw_W_lrem rfl (by unfold jw_rgl; omega) (by omega) ?_
          rw [jm_lrem (by omega) (by omega) (by omega) (by omega)]
          refine jw_W_n 2 (i' := 42) (ls' := [some (.inr (.inr 13)), some (.inr (.inl v)), none, some (.inr (.inl v)), none, some (.inr (.inl 1)), none, some (.inl 1)]) (st' := [.inl (48 + (v % 10)), .inr (.inr 13)]) rfl ?_
          refine jw_W_call (as := [.inr (.inr 13), .inl (48 + (v % 10))]) (rest := []) rfl rfl rfl rfl (Nat.le_of_ble_eq_true rfl) (.inr rfl) (jx_write hL (by omega)) (by omega) ?_ rfl
          rintro r1 σ1 ⟨rfl, hf1, hL1⟩
          have hfr1 := hf1
          show jw_W (js_S n) _ md_159 43 [some (.inr (.inr 13)), some (.inr (.inl v)), none, some (.inr (.inl v)), none, some (.inr (.inl 1)), none, some (.inl 1)] [] σ1 _
          refine jw_W_n 1 (i' := 44) (ls' := [some (.inr (.inr 13)), some (.inr (.inl v)), none, some (.inr (.inl v)), none, some (.inr (.inl 1)), none, some (.inl 1)]) (st' := [.inr (.inl 1)]) rfl ?_
          refine jw_W_ld2 (z := 10) rfl rfl ?_
          refine jw_W_ldiv rfl (by unfold jw_rgl; omega) (by omega) ?_
          rw [show jw_ldiv 1 10 = 0 from by decide +kernel]
          refine jw_W_n 4 (i' := 31) (ls' := [some (.inr (.inr 13)), some (.inr (.inl v)), none, some (.inr (.inl v)), none, some (.inr (.inl 0)), none, some (.inl 1)]) (st' := [.inr (.inl 0), .inr (.inl 0)]) rfl ?_
          refine jw_W_lc rfl rfl (by unfold jw_rgl; omega) (by unfold jw_rgl; omega) (fun hc5 => ?_) (fun hc5 => ?_)
          · clear hc5
            refine jw_W_re rfl ?_
            have hd : L ++ jn_dg v = (L ++ [48 + v % 10]) := by
              unfold jn_dg
              rw [if_pos (by omega)]
              all_goals simp only [List.append_assoc, List.cons_append, List.nil_append]
            rw [hd]
            exact ⟨rfl, hfr1, hL1⟩
          · exact absurd hc5 (show ¬ ¬ ((0 : Int) ≤ 0) by omega)
      · have hc3 : ¬ (v < 10) := hc3
        refine jw_W_n 1 (i' := 24) (ls' := [some (.inr (.inr 13)), some (.inr (.inl v)), none, some (.inr (.inl v)), none, some (.inr (.inl 1)), none, some (.inl 1)]) (st' := [.inr (.inl 1)]) rfl ?_
        refine jw_W_ld2 (z := 10) rfl rfl ?_
        refine jw_W_n 6 (i' := 16) (ls' := [some (.inr (.inr 13)), some (.inr (.inl v)), none, some (.inr (.inl v)), none, some (.inr (.inl 10)), none, some (.inl 2)]) (st' := [.inl 18, .inl 2]) rfl ?_
        refine jw_W_ic rfl (by unfold jw_rg; omega) (by unfold jw_rg; omega) (fun hc6 => ?_) (fun hc6 => ?_)
        · exact absurd hc6 (show ¬ ((2 : Int) ≥ 18) by omega)
        · clear hc6
          refine jw_W_n 2 (i' := 19) (ls' := [some (.inr (.inr 13)), some (.inr (.inl v)), none, some (.inr (.inl v)), none, some (.inr (.inl 10)), none, some (.inl 2)]) (st' := [.inr (.inl 10), .inr (.inl v)]) rfl ?_
          refine jw_W_ldiv rfl (by unfold jw_rgl; omega) (by omega) ?_
          rw [show jw_ldiv v 10 = v / 10 from by rw [jn_ldv (by omega) (by omega) (by omega) (by omega)]]
          refine jw_W_ld2 (z := 10) rfl rfl ?_
          refine jw_W_lc rfl rfl (by unfold jw_rgl; omega) (by unfold jw_rgl; omega) (fun hc7 => ?_) (fun hc7 => ?_)
          · have hc7 : (v / 10) < 10 := hc7
            refine jw_W_n 2 (i' := 31) (ls' := [some (.inr (.inr 13)), some (.inr (.inl v)), none, some (.inr (.inl v)), none, some (.inr (.inl 10)), none, some (.inl 2)]) (st' := [.inr (.inl 0), .inr (.inl 10)]) rfl ?_
            refine jw_W_lc rfl rfl (by unfold jw_rgl; omega) (by unfold jw_rgl; omega) (fun hc8 => ?_) (fun hc8 => ?_)
            · exact absurd hc8 (show ¬ ((10 : Int) ≤ 0) by omega)
            · clear hc8
              refine jw_W_n 4 (i' := 37) (ls' := [some (.inr (.inr 13)), some (.inr (.inl v)), none, some (.inr (.inl v)), none, some (.inr (.inl 10)), none, some (.inl 2)]) (st' := [.inr (.inl 10), .inr (.inl v), .inl 48, .inr (.inr 13)]) rfl ?_
              refine jw_W_ldiv rfl (by unfold jw_rgl; omega) (by omega) ?_
              rw [show jw_ldiv v 10 = v / 10 from by rw [jn_ldv (by omega) (by omega) (by omega) (by omega)]]
              refine jw_W_ld2 (z := 10) rfl rfl ?_
              refine jw_W_lrem rfl (by unfold jw_rgl; omega) (by omega) ?_
              rw [jm_lrem (by omega) (by omega) (by omega) (by omega)]
              refine jw_W_n 2 (i' := 42) (ls' := [some (.inr (.inr 13)), some (.inr (.inl v)), none, some (.inr (.inl v)), none, some (.inr (.inl 10)), none, some (.inl 2)]) (st' := [.inl (48 + (v / 10 % 10)), .inr (.inr 13)]) rfl ?_
              refine jw_W_call (as := [.inr (.inr 13), .inl (48 + (v / 10 % 10))]) (rest := []) rfl rfl rfl rfl (Nat.le_of_ble_eq_true rfl) (.inr rfl) (jx_write hL (by omega)) (by omega) ?_ rfl
              rintro r1 σ1 ⟨rfl, hf1, hL1⟩
              have hfr1 := hf1
              show jw_W (js_S n) _ md_159 43 [some (.inr (.inr 13)), some (.inr (.inl v)), none, some (.inr (.inl v)), none, some (.inr (.inl 10)), none, some (.inl 2)] [] σ1 _
              refine jw_W_n 1 (i' := 44) (ls' := [some (.inr (.inr 13)), some (.inr (.inl v)), none, some (.inr (.inl v)), none, some (.inr (.inl 10)), none, some (.inl 2)]) (st' := [.inr (.inl 10)]) rfl ?_
              refine jw_W_ld2 (z := 10) rfl rfl ?_
              refine jw_W_ldiv rfl (by unfold jw_rgl; omega) (by omega) ?_
              rw [show jw_ldiv 10 10 = 1 from by decide +kernel]
              refine jw_W_n 4 (i' := 31) (ls' := [some (.inr (.inr 13)), some (.inr (.inl v)), none, some (.inr (.inl v)), none, some (.inr (.inl 1)), none, some (.inl 2)]) (st' := [.inr (.inl 0), .inr (.inl 1)]) rfl ?_
              refine jw_W_lc rfl rfl (by unfold jw_rgl; omega) (by unfold jw_rgl; omega) (fun hc9 => ?_) (fun hc9 => ?_)
              · exact absurd hc9 (show ¬ ((1 : Int) ≤ 0) by omega)
              · clear hc9
                refine jw_W_n 4 (i' := 37) (ls' := [some (.inr (.inr 13)), some (.inr (.inl v)), none, some (.inr (.inl v)), none, some (.inr (.inl 1)), none, some (.inl 2)]) (st' := [.inr (.inl 1), .inr (.inl v), .inl 48, .inr (.inr 13)]) rfl ?_
                refine jw_W_ldiv rfl (by unfold jw_rgl; omega) (by omega) ?_
                rw [show jw_ldiv v 1 = v from by rw [jn_ldv (by omega) (by omega) (by omega) (by omega)]; omega]
                refine jw_W_ld2 (z := 10) rfl rfl ?_
                refine jw_W_lrem rfl (by unfold jw_rgl; omega) (by omega) ?_
                rw [jm_lrem (by omega) (by omega) (by omega) (by omega)]
                refine jw_W_n 2 (i' := 42) (ls' := [some (.inr (.inr 13)), some (.inr (.inl v)), none, some (.inr (.inl v)), none, some (.inr (.inl 1)), none, some (.inl 2)]) (st' := [.inl (48 + (v % 10)), .inr (.inr 13)]) rfl ?_
                refine jw_W_call (as := [.inr (.inr 13), .inl (48 + (v % 10))]) (rest := []) rfl rfl rfl rfl (Nat.le_of_ble_eq_true rfl) (.inr rfl) (jx_write hL1 (by simp only [List.length_append, List.length_singleton]; omega)) (by omega) ?_ rfl
                rintro r1 σ2 ⟨rfl, hf2, hL2⟩
                have hfr2 := jn_wf_tr hfr1 hf2
                show jw_W (js_S n) _ md_159 43 [some (.inr (.inr 13)), some (.inr (.inl v)), none, some (.inr (.inl v)), none, some (.inr (.inl 1)), none, some (.inl 2)] [] σ2 _
                refine jw_W_n 1 (i' := 44) (ls' := [some (.inr (.inr 13)), some (.inr (.inl v)), none, some (.inr (.inl v)), none, some (.inr (.inl 1)), none, some (.inl 2)]) (st' := [.inr (.inl 1)]) rfl ?_
                refine jw_W_ld2 (z := 10) rfl rfl ?_
                refine jw_W_ldiv rfl (by unfold jw_rgl; omega) (by omega) ?_
                rw [show jw_ldiv 1 10 = 0 from by decide +kernel]
                refine jw_W_n 4 (i' := 31) (ls' := [some (.inr (.inr 13)), some (.inr (.inl v)), none, some (.inr (.inl v)), none, some (.inr (.inl 0)), none, some (.inl 2)]) (st' := [.inr (.inl 0), .inr (.inl 0)]) rfl ?_
                refine jw_W_lc rfl rfl (by unfold jw_rgl; omega) (by unfold jw_rgl; omega) (fun hc10 => ?_) (fun hc10 => ?_)
                · clear hc10
                  refine jw_W_re rfl ?_
                  have hd : L ++ jn_dg v = ((L ++ [48 + v / 10 % 10]) ++ [48 + v % 10]) := by
                    unfold jn_dg
                    rw [if_neg (by omega), if_pos (by omega)]
                    all_goals simp only [List.append_assoc, List.cons_append, List.nil_append]
                  rw [hd]
                  exact ⟨rfl, hfr2, hL2⟩
                · exact absurd hc10 (show ¬ ¬ ((0 : Int) ≤ 0) by omega)
          · have hc7 : ¬ ((v / 10) < 10) := hc7
            refine jw_W_n 1 (i' := 24) (ls' := [some (.inr (.inr 13)), some (.inr (.inl v)), none, some (.inr (.inl v)), none, some (.inr (.inl 10)), none, some (.inl 2)]) (st' := [.inr (.inl 10)]) rfl ?_
            refine jw_W_ld2 (z := 10) rfl rfl ?_
            refine jw_W_n 6 (i' := 16) (ls' := [some (.inr (.inr 13)), some (.inr (.inl v)), none, some (.inr (.inl v)), none, some (.inr (.inl 100)), none, some (.inl 3)]) (st' := [.inl 18, .inl 3]) rfl ?_
            refine jw_W_ic rfl (by unfold jw_rg; omega) (by unfold jw_rg; omega) (fun hc11 => ?_) (fun hc11 => ?_)
            · exact absurd hc11 (show ¬ ((3 : Int) ≥ 18) by omega)
            · clear hc11
              refine jw_W_n 2 (i' := 19) (ls' := [some (.inr (.inr 13)), some (.inr (.inl v)), none, some (.inr (.inl v)), none, some (.inr (.inl 100)), none, some (.inl 3)]) (st' := [.inr (.inl 100), .inr (.inl v)]) rfl ?_
              refine jw_W_ldiv rfl (by unfold jw_rgl; omega) (by omega) ?_
              rw [show jw_ldiv v 100 = v / 100 from by rw [jn_ldv (by omega) (by omega) (by omega) (by omega)]]
              refine jw_W_ld2 (z := 10) rfl rfl ?_
              refine jw_W_lc rfl rfl (by unfold jw_rgl; omega) (by unfold jw_rgl; omega) (fun hc12 => ?_) (fun hc12 => ?_)
              · have hc12 : (v / 100) < 10 := hc12
                refine jw_W_n 2 (i' := 31) (ls' := [some (.inr (.inr 13)), some (.inr (.inl v)), none, some (.inr (.inl v)), none, some (.inr (.inl 100)), none, some (.inl 3)]) (st' := [.inr (.inl 0), .inr (.inl 100)]) rfl ?_
                refine jw_W_lc rfl rfl (by unfold jw_rgl; omega) (by unfold jw_rgl; omega) (fun hc13 => ?_) (fun hc13 => ?_)
                · exact absurd hc13 (show ¬ ((100 : Int) ≤ 0) by omega)
                · clear hc13
                  refine jw_W_n 4 (i' := 37) (ls' := [some (.inr (.inr 13)), some (.inr (.inl v)), none, some (.inr (.inl v)), none, some (.inr (.inl 100)), none, some (.inl 3)]) (st' := [.inr (.inl 100), .inr (.inl v), .inl 48, .inr (.inr 13)]) rfl ?_
                  refine jw_W_ldiv rfl (by unfold jw_rgl; omega) (by omega) ?_
                  rw [show jw_ldiv v 100 = v / 100 from by rw [jn_ldv (by omega) (by omega) (by omega) (by omega)]]
                  refine jw_W_ld2 (z := 10) rfl rfl ?_
                  refine jw_W_lrem rfl (by unfold jw_rgl; omega) (by omega) ?_
                  rw [jm_lrem (by omega) (by omega) (by omega) (by omega)]
                  refine jw_W_n 2 (i' := 42) (ls' := [some (.inr (.inr 13)), some (.inr (.inl v)), none, some (.inr (.inl v)), none, some (.inr (.inl 100)), none, some (.inl 3)]) (st' := [.inl (48 + (v / 100 % 10)), .inr (.inr 13)]) rfl ?_
                  refine jw_W_call (as := [.inr (.inr 13), .inl (48 + (v / 100 % 10))]) (rest := []) rfl rfl rfl rfl (Nat.le_of_ble_eq_true rfl) (.inr rfl) (jx_write hL (by omega)) (by omega) ?_ rfl
                  rintro r1 σ1 ⟨rfl, hf1, hL1⟩
                  have hfr1 := hf1
                  show jw_W (js_S n) _ md_159 43 [some (.inr (.inr 13)), some (.inr (.inl v)), none, some (.inr (.inl v)), none, some (.inr (.inl 100)), none, some (.inl 3)] [] σ1 _
                  refine jw_W_n 1 (i' := 44) (ls' := [some (.inr (.inr 13)), some (.inr (.inl v)), none, some (.inr (.inl v)), none, some (.inr (.inl 100)), none, some (.inl 3)]) (st' := [.inr (.inl 100)]) rfl ?_
                  refine jw_W_ld2 (z := 10) rfl rfl ?_
                  refine jw_W_ldiv rfl (by unfold jw_rgl; omega) (by omega) ?_
                  rw [show jw_ldiv 100 10 = 10 from by decide +kernel]
                  refine jw_W_n 4 (i' := 31) (ls' := [some (.inr (.inr 13)), some (.inr (.inl v)), none, some (.inr (.inl v)), none, some (.inr (.inl 10)), none, some (.inl 3)]) (st' := [.inr (.inl 0), .inr (.inl 10)]) rfl ?_
                  refine jw_W_lc rfl rfl (by unfold jw_rgl; omega) (by unfold jw_rgl; omega) (fun hc14 => ?_) (fun hc14 => ?_)
                  · exact absurd hc14 (show ¬ ((10 : Int) ≤ 0) by omega)
                  · clear hc14
                    refine jw_W_n 4 (i' := 37) (ls' := [some (.inr (.inr 13)), some (.inr (.inl v)), none, some (.inr (.inl v)), none, some (.inr (.inl 10)), none, some (.inl 3)]) (st' := [.inr (.inl 10), .inr (.inl v), .inl 48, .inr (.inr 13)]) rfl ?_
                    refine jw_W_ldiv rfl (by unfold jw_rgl; omega) (by omega) ?_
                    rw [show jw_ldiv v 10 = v / 10 from by rw [jn_ldv (by omega) (by omega) (by omega) (by omega)]]
                    refine jw_W_ld2 (z := 10) rfl rfl ?_
                    refine jw_W_lrem rfl (by unfold jw_rgl; omega) (by omega) ?_
                    rw [jm_lrem (by omega) (by omega) (by omega) (by omega)]
                    refine jw_W_n 2 (i' := 42) (ls' := [some (.inr (.inr 13)), some (.inr (.inl v)), none, some (.inr (.inl v)), none, some (.inr (.inl 10)), none, some (.inl 3)]) (st' := [.inl (48 + (v / 10 % 10)), .inr (.inr 13)]) rfl ?_
                    refine jw_W_call (as := [.inr (.inr 13), .inl (48 + (v / 10 % 10))]) (rest := []) rfl rfl rfl rfl (Nat.le_of_ble_eq_true rfl) (.inr rfl) (jx_write hL1 (by simp only [List.length_append, List.length_singleton]; omega)) (by omega) ?_ rfl
                    rintro r1 σ2 ⟨rfl, hf2, hL2⟩
                    have hfr2 := jn_wf_tr hfr1 hf2
                    show jw_W (js_S n) _ md_159 43 [some (.inr (.inr 13)), some (.inr (.inl v)), none, some (.inr (.inl v)), none, some (.inr (.inl 10)), none, some (.inl 3)] [] σ2 _
                    refine jw_W_n 1 (i' := 44) (ls' := [some (.inr (.inr 13)), some (.inr (.inl v)), none, some (.inr (.inl v)), none, some (.inr (.inl 10)), none, some (.inl 3)]) (st' := [.inr (.inl 10)]) rfl ?_
                    refine jw_W_ld2 (z := 10) rfl rfl ?_
                    refine jw_W_ldiv rfl (by unfold jw_rgl; omega) (by omega) ?_
                    rw [show jw_ldiv 10 10 = 1 from by decide +kernel]
                    refine jw_W_n 4 (i' := 31) (ls' := [some (.inr (.inr 13)), some (.inr (.inl v)), none, some (.inr (.inl v)), none, some (.inr (.inl 1)), none, some (.inl 3)]) (st' := [.inr (.inl 0), .inr (.inl 1)]) rfl ?_
                    refine jw_W_lc rfl rfl (by unfold jw_rgl; omega) (by unfold jw_rgl; omega) (fun hc15 => ?_) (fun hc15 => ?_)
                    · exact absurd hc15 (show ¬ ((1 : Int) ≤ 0) by omega)
                    · clear hc15
                      refine jw_W_n 4 (i' := 37) (ls' := [some (.inr (.inr 13)), some (.inr (.inl v)), none, some (.inr (.inl v)), none, some (.inr (.inl 1)), none, some (.inl 3)]) (st' := [.inr (.inl 1), .inr (.inl v), .inl 48, .inr (.inr 13)]) rfl ?_
                      refine jw_W_ldiv rfl (by unfold jw_rgl; omega) (by omega) ?_
                      rw [show jw_ldiv v 1 = v from by rw [jn_ldv (by omega) (by omega) (by omega) (by omega)]; omega]
                      refine jw_W_ld2 (z := 10) rfl rfl ?_
                      refine jw_W_lrem rfl (by unfold jw_rgl; omega) (by omega) ?_
                      rw [jm_lrem (by omega) (by omega) (by omega) (by omega)]
                      refine jw_W_n 2 (i' := 42) (ls' := [some (.inr (.inr 13)), some (.inr (.inl v)), none, some (.inr (.inl v)), none, some (.inr (.inl 1)), none, some (.inl 3)]) (st' := [.inl (48 + (v % 10)), .inr (.inr 13)]) rfl ?_
                      refine jw_W_call (as := [.inr (.inr 13), .inl (48 + (v % 10))]) (rest := []) rfl rfl rfl rfl (Nat.le_of_ble_eq_true rfl) (.inr rfl) (jx_write hL2 (by simp only [List.length_append, List.length_singleton]; omega)) (by omega) ?_ rfl
                      rintro r1 σ3 ⟨rfl, hf3, hL3⟩
                      have hfr3 := jn_wf_tr hfr2 hf3
                      show jw_W (js_S n) _ md_159 43 [some (.inr (.inr 13)), some (.inr (.inl v)), none, some (.inr (.inl v)), none, some (.inr (.inl 1)), none, some (.inl 3)] [] σ3 _
                      refine jw_W_n 1 (i' := 44) (ls' := [some (.inr (.inr 13)), some (.inr (.inl v)), none, some (.inr (.inl v)), none, some (.inr (.inl 1)), none, some (.inl 3)]) (st' := [.inr (.inl 1)]) rfl ?_
                      refine jw_W_ld2 (z := 10) rfl rfl ?_
                      refine jw_W_ldiv rfl (by unfold jw_rgl; omega) (by omega) ?_
                      rw [show jw_ldiv 1 10 = 0 from by decide +kernel]
                      refine jw_W_n 4 (i' := 31) (ls' := [some (.inr (.inr 13)), some (.inr (.inl v)), none, some (.inr (.inl v)), none, some (.inr (.inl 0)), none, some (.inl 3)]) (st' := [.inr (.inl 0), .inr (.inl 0)]) rfl ?_
                      refine jw_W_lc rfl rfl (by unfold jw_rgl; omega) (by unfold jw_rgl; omega) (fun hc16 => ?_) (fun hc16 => ?_)
                      · clear hc16
                        refine jw_W_re rfl ?_
                        have hd : L ++ jn_dg v = (((L ++ [48 + v / 100 % 10]) ++ [48 + v / 10 % 10]) ++ [48 + v % 10]) := by
                          unfold jn_dg
                          rw [if_neg (by omega), if_neg (by omega), if_pos (by omega)]
                          all_goals simp only [List.append_assoc, List.cons_append, List.nil_append]
                        rw [hd]
                        exact ⟨rfl, hfr3, hL3⟩
                      · exact absurd hc16 (show ¬ ¬ ((0 : Int) ≤ 0) by omega)
              · have hc12 : ¬ ((v / 100) < 10) := hc12
                refine jw_W_n 1 (i' := 24) (ls' := [some (.inr (.inr 13)), some (.inr (.inl v)), none, some (.inr (.inl v)), none, some (.inr (.inl 100)), none, some (.inl 3)]) (st' := [.inr (.inl 100)]) rfl ?_
                refine jw_W_ld2 (z := 10) rfl rfl ?_
                refine jw_W_n 6 (i' := 16) (ls' := [some (.inr (.inr 13)), some (.inr (.inl v)), none, some (.inr (.inl v)), none, some (.inr (.inl 1000)), none, some (.inl 4)]) (st' := [.inl 18, .inl 4]) rfl ?_
                refine jw_W_ic rfl (by unfold jw_rg; omega) (by unfold jw_rg; omega) (fun hc17 => ?_) (fun hc17 => ?_)
                · exact absurd hc17 (show ¬ ((4 : Int) ≥ 18) by omega)
                · clear hc17
                  refine jw_W_n 2 (i' := 19) (ls' := [some (.inr (.inr 13)), some (.inr (.inl v)), none, some (.inr (.inl v)), none, some (.inr (.inl 1000)), none, some (.inl 4)]) (st' := [.inr (.inl 1000), .inr (.inl v)]) rfl ?_
                  refine jw_W_ldiv rfl (by unfold jw_rgl; omega) (by omega) ?_
                  rw [show jw_ldiv v 1000 = v / 1000 from by rw [jn_ldv (by omega) (by omega) (by omega) (by omega)]]
                  refine jw_W_ld2 (z := 10) rfl rfl ?_
                  refine jw_W_lc rfl rfl (by unfold jw_rgl; omega) (by unfold jw_rgl; omega) (fun hc18 => ?_) (fun hc18 => ?_)
                  · have hc18 : (v / 1000) < 10 := hc18
                    refine jw_W_n 2 (i' := 31) (ls' := [some (.inr (.inr 13)), some (.inr (.inl v)), none, some (.inr (.inl v)), none, some (.inr (.inl 1000)), none, some (.inl 4)]) (st' := [.inr (.inl 0), .inr (.inl 1000)]) rfl ?_
                    refine jw_W_lc rfl rfl (by unfold jw_rgl; omega) (by unfold jw_rgl; omega) (fun hc19 => ?_) (fun hc19 => ?_)
                    · exact absurd hc19 (show ¬ ((1000 : Int) ≤ 0) by omega)
                    · clear hc19
                      refine jw_W_n 4 (i' := 37) (ls' := [some (.inr (.inr 13)), some (.inr (.inl v)), none, some (.inr (.inl v)), none, some (.inr (.inl 1000)), none, some (.inl 4)]) (st' := [.inr (.inl 1000), .inr (.inl v), .inl 48, .inr (.inr 13)]) rfl ?_
                      refine jw_W_ldiv rfl (by unfold jw_rgl; omega) (by omega) ?_
                      rw [show jw_ldiv v 1000 = v / 1000 from by rw [jn_ldv (by omega) (by omega) (by omega) (by omega)]]
                      refine jw_W_ld2 (z := 10) rfl rfl ?_
                      refine jw_W_lrem rfl (by unfold jw_rgl; omega) (by omega) ?_
                      rw [jm_lrem (by omega) (by omega) (by omega) (by omega)]
                      refine jw_W_n 2 (i' := 42) (ls' := [some (.inr (.inr 13)), some (.inr (.inl v)), none, some (.inr (.inl v)), none, some (.inr (.inl 1000)), none, some (.inl 4)]) (st' := [.inl (48 + (v / 1000 % 10)), .inr (.inr 13)]) rfl ?_
                      refine jw_W_call (as := [.inr (.inr 13), .inl (48 + (v / 1000 % 10))]) (rest := []) rfl rfl rfl rfl (Nat.le_of_ble_eq_true rfl) (.inr rfl) (jx_write hL (by omega)) (by omega) ?_ rfl
                      rintro r1 σ1 ⟨rfl, hf1, hL1⟩
                      have hfr1 := hf1
                      show jw_W (js_S n) _ md_159 43 [some (.inr (.inr 13)), some (.inr (.inl v)), none, some (.inr (.inl v)), none, some (.inr (.inl 1000)), none, some (.inl 4)] [] σ1 _
                      refine jw_W_n 1 (i' := 44) (ls' := [some (.inr (.inr 13)), some (.inr (.inl v)), none, some (.inr (.inl v)), none, some (.inr (.inl 1000)), none, some (.inl 4)]) (st' := [.inr (.inl 1000)]) rfl ?_
                      refine jw_W_ld2 (z := 10) rfl rfl ?_
                      refine jw_W_ldiv rfl (by unfold jw_rgl; omega) (by omega) ?_
                      rw [show jw_ldiv 1000 10 = 100 from by decide +kernel]
                      refine jw_W_n 4 (i' := 31) (ls' := [some (.inr (.inr 13)), some (.inr (.inl v)), none, some (.inr (.inl v)), none, some (.inr (.inl 100)), none, some (.inl 4)]) (st' := [.inr (.inl 0), .inr (.inl 100)]) rfl ?_
                      refine jw_W_lc rfl rfl (by unfold jw_rgl; omega) (by unfold jw_rgl; omega) (fun hc20 => ?_) (fun hc20 => ?_)
                      · exact absurd hc20 (show ¬ ((100 : Int) ≤ 0) by omega)
                      · clear hc20
                        refine jw_W_n 4 (i' := 37) (ls' := [some (.inr (.inr 13)), some (.inr (.inl v)), none, some (.inr (.inl v)), none, some (.inr (.inl 100)), none, some (.inl 4)]) (st' := [.inr (.inl 100), .inr (.inl v), .inl 48, .inr (.inr 13)]) rfl ?_
                        refine jw_W_ldiv rfl (by unfold jw_rgl; omega) (by omega) ?_
                        rw [show jw_ldiv v 100 = v / 100 from by rw [jn_ldv (by omega) (by omega) (by omega) (by omega)]]
                        refine jw_W_ld2 (z := 10) rfl rfl ?_
                        refine jw_W_lrem rfl (by unfold jw_rgl; omega) (by omega) ?_
                        rw [jm_lrem (by omega) (by omega) (by omega) (by omega)]
                        refine jw_W_n 2 (i' := 42) (ls' := [some (.inr (.inr 13)), some (.inr (.inl v)), none, some (.inr (.inl v)), none, some (.inr (.inl 100)), none, some (.inl 4)]) (st' := [.inl (48 + (v / 100 % 10)), .inr (.inr 13)]) rfl ?_
                        refine jw_W_call (as := [.inr (.inr 13), .inl (48 + (v / 100 % 10))]) (rest := []) rfl rfl rfl rfl (Nat.le_of_ble_eq_true rfl) (.inr rfl) (jx_write hL1 (by simp only [List.length_append, List.length_singleton]; omega)) (by omega) ?_ rfl
                        rintro r1 σ2 ⟨rfl, hf2, hL2⟩
                        have hfr2 := jn_wf_tr hfr1 hf2
                        show jw_W (js_S n) _ md_159 43 [some (.inr (.inr 13)), some (.inr (.inl v)), none, some (.inr (.inl v)), none, some (.inr (.inl 100)), none, some (.inl 4)] [] σ2 _
                        refine jw_W_n 1 (i' := 44) (ls' := [some (.inr (.inr 13)), some (.inr (.inl v)), none, some (.inr (.inl v)), none, some (.inr (.inl 100)), none, some (.inl 4)]) (st' := [.inr (.inl 100)]) rfl ?_
                        refine jw_W_ld2 (z := 10) rfl rfl ?_
                        refine jw_W_ldiv rfl (by unfold jw_rgl; omega) (by omega) ?_
                        rw [show jw_ldiv 100 10 = 10 from by decide +kernel]
                        refine jw_W_n 4 (i' := 31) (ls' := [some (.inr (.inr 13)), some (.inr (.inl v)), none, some (.inr (.inl v)), none, some (.inr (.inl 10)), none, some (.inl 4)]) (st' := [.inr (.inl 0), .inr (.inl 10)]) rfl ?_
                        refine jw_W_lc rfl rfl (by unfold jw_rgl; omega) (by unfold jw_rgl; omega) (fun hc21 => ?_) (fun hc21 => ?_)
                        · exact absurd hc21 (show ¬ ((10 : Int) ≤ 0) by omega)
                        · clear hc21
                          refine jw_W_n 4 (i' := 37) (ls' := [some (.inr (.inr 13)), some (.inr (.inl v)), none, some (.inr (.inl v)), none, some (.inr (.inl 10)), none, some (.inl 4)]) (st' := [.inr (.inl 10), .inr (.inl v), .inl 48, .inr (.inr 13)]) rfl ?_
                          refine jw_W_ldiv rfl (by unfold jw_rgl; omega) (by omega) ?_
                          rw [show jw_ldiv v 10 = v / 10 from by rw [jn_ldv (by omega) (by omega) (by omega) (by omega)]]
                          refine jw_W_ld2 (z := 10) rfl rfl ?_
                          refine jw_W_lrem rfl (by unfold jw_rgl; omega) (by omega) ?_
                          rw [jm_lrem (by omega) (by omega) (by omega) (by omega)]
                          refine jw_W_n 2 (i' := 42) (ls' := [some (.inr (.inr 13)), some (.inr (.inl v)), none, some (.inr (.inl v)), none, some (.inr (.inl 10)), none, some (.inl 4)]) (st' := [.inl (48 + (v / 10 % 10)), .inr (.inr 13)]) rfl ?_
                          refine jw_W_call (as := [.inr (.inr 13), .inl (48 + (v / 10 % 10))]) (rest := []) rfl rfl rfl rfl (Nat.le_of_ble_eq_true rfl) (.inr rfl) (jx_write hL2 (by simp only [List.length_append, List.length_singleton]; omega)) (by omega) ?_ rfl
                          rintro r1 σ3 ⟨rfl, hf3, hL3⟩
                          have hfr3 := jn_wf_tr hfr2 hf3
                          show jw_W (js_S n) _ md_159 43 [some (.inr (.inr 13)), some (.inr (.inl v)), none, some (.inr (.inl v)), none, some (.inr (.inl 10)), none, some (.inl 4)] [] σ3 _
                          refine jw_W_n 1 (i' := 44) (ls' := [some (.inr (.inr 13)), some (.inr (.inl v)), none, some (.inr (.inl v)), none, some (.inr (.inl 10)), none, some (.inl 4)]) (st' := [.inr (.inl 10)]) rfl ?_
                          refine jw_W_ld2 (z := 10) rfl rfl ?_
                          refine jw_W_ldiv rfl (by unfold jw_rgl; omega) (by omega) ?_
                          rw [show jw_ldiv 10 10 = 1 from by decide +kernel]
                          refine jw_W_n 4 (i' := 31) (ls' := [some (.inr (.inr 13)), some (.inr (.inl v)), none, some (.inr (.inl v)), none, some (.inr (.inl 1)), none, some (.inl 4)]) (st' := [.inr (.inl 0), .inr (.inl 1)]) rfl ?_
                          refine jw_W_lc rfl rfl (by unfold jw_rgl; omega) (by unfold jw_rgl; omega) (fun hc22 => ?_) (fun hc22 => ?_)
                          · exact absurd hc22 (show ¬ ((1 : Int) ≤ 0) by omega)
                          · clear hc22
                            refine jw_W_n 4 (i' := 37) (ls' := [some (.inr (.inr 13)), some (.inr (.inl v)), none, some (.inr (.inl v)), none, some (.inr (.inl 1)), none, some (.inl 4)]) (st' := [.inr (.inl 1), .inr (.inl v), .inl 48, .inr (.inr 13)]) rfl ?_
                            refine jw_W_ldiv rfl (by unfold jw_rgl; omega) (by omega) ?_
                            rw [show jw_ldiv v 1 = v from by rw [jn_ldv (by omega) (by omega) (by omega) (by omega)]; omega]
                            refine jw_W_ld2 (z := 10) rfl rfl ?_
                            refine jw_W_lrem rfl (by unfold jw_rgl; omega) (by omega) ?_
                            rw [jm_lrem (by omega) (by omega) (by omega) (by omega)]
                            refine jw_W_n 2 (i' := 42) (ls' := [some (.inr (.inr 13)), some (.inr (.inl v)), none, some (.inr (.inl v)), none, some (.inr (.inl 1)), none, some (.inl 4)]) (st' := [.inl (48 + (v % 10)), .inr (.inr 13)]) rfl ?_
                            refine jw_W_call (as := [.inr (.inr 13), .inl (48 + (v % 10))]) (rest := []) rfl rfl rfl rfl (Nat.le_of_ble_eq_true rfl) (.inr rfl) (jx_write hL3 (by simp only [List.length_append, List.length_singleton]; omega)) (by omega) ?_ rfl
                            rintro r1 σ4 ⟨rfl, hf4, hL4⟩
                            have hfr4 := jn_wf_tr hfr3 hf4
                            show jw_W (js_S n) _ md_159 43 [some (.inr (.inr 13)), some (.inr (.inl v)), none, some (.inr (.inl v)), none, some (.inr (.inl 1)), none, some (.inl 4)] [] σ4 _
                            refine jw_W_n 1 (i' := 44) (ls' := [some (.inr (.inr 13)), some (.inr (.inl v)), none, some (.inr (.inl v)), none, some (.inr (.inl 1)), none, some (.inl 4)]) (st' := [.inr (.inl 1)]) rfl ?_
                            refine jw_W_ld2 (z := 10) rfl rfl ?_
                            refine jw_W_ldiv rfl (by unfold jw_rgl; omega) (by omega) ?_
                            rw [show jw_ldiv 1 10 = 0 from by decide +kernel]
                            refine jw_W_n 4 (i' := 31) (ls' := [some (.inr (.inr 13)), some (.inr (.inl v)), none, some (.inr (.inl v)), none, some (.inr (.inl 0)), none, some (.inl 4)]) (st' := [.inr (.inl 0), .inr (.inl 0)]) rfl ?_
                            refine jw_W_lc rfl rfl (by unfold jw_rgl; omega) (by unfold jw_rgl; omega) (fun hc23 => ?_) (fun hc23 => ?_)
                            · clear hc23
                              refine jw_W_re rfl ?_
                              have hd : L ++ jn_dg v = ((((L ++ [48 + v / 1000 % 10]) ++ [48 + v / 100 % 10]) ++ [48 + v / 10 % 10]) ++ [48 + v % 10]) := by
                                unfold jn_dg
                                rw [if_neg (by omega), if_neg (by omega), if_neg (by omega)]
                                all_goals simp only [List.append_assoc, List.cons_append, List.nil_append]
                              rw [hd]
                              exact ⟨rfl, hfr4, hL4⟩
                            · exact absurd hc23 (show ¬ ¬ ((0 : Int) ≤ 0) by omega)
                  · have hc18 : ¬ ((v / 1000) < 10) := hc18
                    exfalso; omega
  · have hc1 : ¬ (v ≥ 0) := hc1
    exfalso; omega
theorem jm_tellsNumber {n : Nat} {σ : jw_H} {L : List Int} {v : Int} (hL : jn_tl 143 103 73 σ L) (hl : L.length + 4 ≤ 64) (v0 : 0 ≤ v) (v1 : v ≤ 1458) : jw_T (js_S n) 1 327 [.inr (.inr 103), .inr (.inl v)] σ (fun r σ' => r = none ∧ jn_wg σ σ' ∧ jn_tl 143 103 73 σ' (L ++ jn_dg v)) := by
  refine jw_T_of (D := 0) (M := mm_327) rfl (Nat.le_of_ble_eq_true rfl) (ls0 := [some (.inr (.inr 103)), some (.inr (.inl v)), none, none, none]) rfl ?_ (by rintro _ _ ⟨rfl, -⟩; rfl)
  have hL1 := hL.1
  refine jw_W_n 4 (i' := 4) (ls' := [some (.inr (.inr 103)), some (.inr (.inl v)), none, some (.inr (.inl 1)), none]) (st' := [.inr (.inl 1), .inr (.inl v)]) rfl ?_
  refine jw_W_ldiv rfl (by unfold jw_rgl; omega) (by omega) ?_
  rw [show jw_ldiv v 1 = v from by rw [jn_ldv (by omega) (by omega) (by omega) (by omega)]; omega]
  refine jw_W_ld2 (z := 9) rfl rfl ?_
  refine jw_W_lc rfl rfl (by unfold jw_rgl; omega) (by unfold jw_rgl; omega) (fun hc1 => ?_) (fun hc1 => ?_)
  · have hc1 : v ≤ 9 := hc1
    refine jw_W_n 2 (i' := 15) (ls' := [some (.inr (.inr 103)), some (.inr (.inl v)), none, some (.inr (.inl 1)), none]) (st' := [.inr (.inl 0), .inr (.inl 1)]) rfl ?_
    refine jw_W_lc rfl rfl (by unfold jw_rgl; omega) (by unfold jw_rgl; omega) (fun hc2 => ?_) (fun hc2 => ?_)
    · exact absurd hc2 (show ¬ ((1 : Int) ≤ 0) by omega)
    · clear hc2
      refine jw_W_n 1 (i' := 18) (ls' := [some (.inr (.inr 103)), some (.inr (.inl v)), none, some (.inr (.inl 1)), none]) (st' := [.inr (.inr 103)]) rfl ?_
      refine jw_W_gf rfl rfl rfl ?_
      show jw_W (js_S n) _ md_327 19 [some (.inr (.inr 103)), some (.inr (.inl v)), none, some (.inr (.inl 1)), none] [.inr (.inr 143)] σ _
      refine jw_W_n 1 (i' := 20) (ls' := [some (.inr (.inr 103)), some (.inr (.inl v)), none, some (.inr (.inl 1)), none]) (st' := [.inr (.inr 103), .inr (.inr 143)]) rfl ?_
      refine jw_W_gf rfl rfl rfl ?_
      show jw_W (js_S n) _ md_327 21 [some (.inr (.inr 103)), some (.inr (.inl v)), none, some (.inr (.inl 1)), none] [.inl (σ 103 73), .inr (.inr 143)] σ _
      refine jw_W_n 3 (i' := 24) (ls' := [some (.inr (.inr 103)), some (.inr (.inl v)), none, some (.inr (.inl 1)), none]) (st' := [.inr (.inl 1), .inr (.inl v), .inl 48, .inl (σ 103 73), .inr (.inr 143)]) rfl ?_
      refine jw_W_ldiv rfl (by unfold jw_rgl; omega) (by omega) ?_
      rw [show jw_ldiv v 1 = v from by rw [jn_ldv (by omega) (by omega) (by omega) (by omega)]; omega]
      refine jw_W_ld2 (z := 10) rfl rfl ?_
      refine jw_W_lrem rfl (by unfold jw_rgl; omega) (by omega) ?_
      rw [jm_lrem (by omega) (by omega) (by omega) (by omega)]
      refine jw_W_n 2 (i' := 29) (ls' := [some (.inr (.inr 103)), some (.inr (.inl v)), none, some (.inr (.inl 1)), none]) (st' := [.inl (48 + (v % 10)), .inl (σ 103 73), .inr (.inr 143)]) rfl ?_
      refine jw_W_is rfl (by omega) rfl (by omega) (by omega) (by omega) ?_
      refine jw_W_n 2 (i' := 32) (ls' := [some (.inr (.inr 103)), some (.inr (.inl v)), none, some (.inr (.inl 1)), none]) (st' := [.inr (.inr 103), .inr (.inr 103)]) rfl ?_
      refine jw_W_gf rfl rfl rfl ?_
      show jw_W (js_S n) _ md_327 33 [some (.inr (.inr 103)), some (.inr (.inl v)), none, some (.inr (.inl 1)), none] [.inl (σ 103 73), .inr (.inr 103)] ((jw_up σ 143 (σ 103 73) (48 + (v % 10)))) _
      refine jw_W_n 2 (i' := 35) (ls' := [some (.inr (.inr 103)), some (.inr (.inl v)), none, some (.inr (.inl 1)), none]) (st' := [.inl (σ 103 73 + 1), .inr (.inr 103)]) rfl ?_
      refine jw_W_pf (a := σ 103 73 + 1) rfl (by omega) rfl rfl rfl rfl rfl ?_
      refine jw_W_n 1 (i' := 37) (ls' := [some (.inr (.inr 103)), some (.inr (.inl v)), none, some (.inr (.inl 1)), none]) (st' := [.inr (.inl 1)]) rfl ?_
      refine jw_W_ld2 (z := 10) rfl rfl ?_
      refine jw_W_ldiv rfl (by unfold jw_rgl; omega) (by omega) ?_
      rw [show jw_ldiv 1 10 = 0 from by decide +kernel]
      refine jw_W_n 4 (i' := 15) (ls' := [some (.inr (.inr 103)), some (.inr (.inl v)), none, some (.inr (.inl 0)), none]) (st' := [.inr (.inl 0), .inr (.inl 0)]) rfl ?_
      refine jw_W_lc rfl rfl (by unfold jw_rgl; omega) (by unfold jw_rgl; omega) (fun hc3 => ?_) (fun hc3 => ?_)
      · clear hc3
        refine jw_W_re rfl ?_
        have hL1 := jn_tl_add (c := 48 + v % 10) (by decide) hL
        have hd : L ++ jn_dg v = (L ++ [48 + v % 10]) := by
          unfold jn_dg
          rw [if_pos (by omega)]
          all_goals simp only [List.append_assoc, List.cons_append, List.nil_append]
        rw [hd]
        exact ⟨rfl, by exact jn_wg_up, hL1⟩
      · exact absurd hc3 (show ¬ ¬ ((0 : Int) ≤ 0) by omega)
  · have hc1 : ¬ (v ≤ 9) := hc1
    refine jw_W_n 1 (i' := 9) (ls' := [some (.inr (.inr 103)), some (.inr (.inl v)), none, some (.inr (.inl 1)), none]) (st' := [.inr (.inl 1)]) rfl ?_
    refine jw_W_ld2 (z := 10) rfl rfl ?_
    refine jw_W_n 5 (i' := 4) (ls' := [some (.inr (.inr 103)), some (.inr (.inl v)), none, some (.inr (.inl 10)), none]) (st' := [.inr (.inl 10), .inr (.inl v)]) rfl ?_
    refine jw_W_ldiv rfl (by unfold jw_rgl; omega) (by omega) ?_
    rw [show jw_ldiv v 10 = v / 10 from by rw [jn_ldv (by omega) (by omega) (by omega) (by omega)]]
    refine jw_W_ld2 (z := 9) rfl rfl ?_
    refine jw_W_lc rfl rfl (by unfold jw_rgl; omega) (by unfold jw_rgl; omega) (fun hc4 => ?_) (fun hc4 => ?_)
    · have hc4 : (v / 10) ≤ 9 := hc4
      refine jw_W_n 2 (i' := 15) (ls' := [some (.inr (.inr 103)), some (.inr (.inl v)), none, some (.inr (.inl 10)), none]) (st' := [.inr (.inl 0), .inr (.inl 10)]) rfl ?_
      refine jw_W_lc rfl rfl (by unfold jw_rgl; omega) (by unfold jw_rgl; omega) (fun hc5 => ?_) (fun hc5 => ?_)
      · exact absurd hc5 (show ¬ ((10 : Int) ≤ 0) by omega)
      · clear hc5
        refine jw_W_n 1 (i' := 18) (ls' := [some (.inr (.inr 103)), some (.inr (.inl v)), none, some (.inr (.inl 10)), none]) (st' := [.inr (.inr 103)]) rfl ?_
        refine jw_W_gf rfl rfl rfl ?_
        show jw_W (js_S n) _ md_327 19 [some (.inr (.inr 103)), some (.inr (.inl v)), none, some (.inr (.inl 10)), none] [.inr (.inr 143)] σ _
        refine jw_W_n 1 (i' := 20) (ls' := [some (.inr (.inr 103)), some (.inr (.inl v)), none, some (.inr (.inl 10)), none]) (st' := [.inr (.inr 103), .inr (.inr 143)]) rfl ?_
        refine jw_W_gf rfl rfl rfl ?_
        show jw_W (js_S n) _ md_327 21 [some (.inr (.inr 103)), some (.inr (.inl v)), none, some (.inr (.inl 10)), none] [.inl (σ 103 73), .inr (.inr 143)] σ _
        refine jw_W_n 3 (i' := 24) (ls' := [some (.inr (.inr 103)), some (.inr (.inl v)), none, some (.inr (.inl 10)), none]) (st' := [.inr (.inl 10), .inr (.inl v), .inl 48, .inl (σ 103 73), .inr (.inr 143)]) rfl ?_
        refine jw_W_ldiv rfl (by unfold jw_rgl; omega) (by omega) ?_
        rw [show jw_ldiv v 10 = v / 10 from by rw [jn_ldv (by omega) (by omega) (by omega) (by omega)]]
        refine jw_W_ld2 (z := 10) rfl rfl ?_
        refine jw_W_lrem rfl (by unfold jw_rgl; omega) (by omega) ?_
        rw [jm_lrem (by omega) (by omega) (by omega) (by omega)]
        refine jw_W_n 2 (i' := 29) (ls' := [some (.inr (.inr 103)), some (.inr (.inl v)), none, some (.inr (.inl 10)), none]) (st' := [.inl (48 + (v / 10 % 10)), .inl (σ 103 73), .inr (.inr 143)]) rfl ?_
        refine jw_W_is rfl (by omega) rfl (by omega) (by omega) (by omega) ?_
        refine jw_W_n 2 (i' := 32) (ls' := [some (.inr (.inr 103)), some (.inr (.inl v)), none, some (.inr (.inl 10)), none]) (st' := [.inr (.inr 103), .inr (.inr 103)]) rfl ?_
        refine jw_W_gf rfl rfl rfl ?_
        show jw_W (js_S n) _ md_327 33 [some (.inr (.inr 103)), some (.inr (.inl v)), none, some (.inr (.inl 10)), none] [.inl (σ 103 73), .inr (.inr 103)] ((jw_up σ 143 (σ 103 73) (48 + (v / 10 % 10)))) _
        refine jw_W_n 2 (i' := 35) (ls' := [some (.inr (.inr 103)), some (.inr (.inl v)), none, some (.inr (.inl 10)), none]) (st' := [.inl (σ 103 73 + 1), .inr (.inr 103)]) rfl ?_
        refine jw_W_pf (a := σ 103 73 + 1) rfl (by omega) rfl rfl rfl rfl rfl ?_
        refine jw_W_n 1 (i' := 37) (ls' := [some (.inr (.inr 103)), some (.inr (.inl v)), none, some (.inr (.inl 10)), none]) (st' := [.inr (.inl 10)]) rfl ?_
        refine jw_W_ld2 (z := 10) rfl rfl ?_
        refine jw_W_ldiv rfl (by unfold jw_rgl; omega) (by omega) ?_
        rw [show jw_ldiv 10 10 = 1 from by decide +kernel]
        refine jw_W_n 4 (i' := 15) (ls' := [some (.inr (.inr 103)), some (.inr (.inl v)), none, some (.inr (.inl 1)), none]) (st' := [.inr (.inl 0), .inr (.inl 1)]) rfl ?_
        refine jw_W_lc rfl rfl (by unfold jw_rgl; omega) (by unfold jw_rgl; omega) (fun hc6 => ?_) (fun hc6 => ?_)
        · exact absurd hc6 (show ¬ ((1 : Int) ≤ 0) by omega)
        · clear hc6
          refine jw_W_n 1 (i' := 18) (ls' := [some (.inr (.inr 103)), some (.inr (.inl v)), none, some (.inr (.inl 1)), none]) (st' := [.inr (.inr 103)]) rfl ?_
          refine jw_W_gf rfl rfl rfl ?_
          show jw_W (js_S n) _ md_327 19 [some (.inr (.inr 103)), some (.inr (.inl v)), none, some (.inr (.inl 1)), none] [.inr (.inr 143)] ((jw_up (jw_up σ 143 (σ 103 73) (48 + (v / 10 % 10))) 103 73 (σ 103 73 + 1))) _
          refine jw_W_n 1 (i' := 20) (ls' := [some (.inr (.inr 103)), some (.inr (.inl v)), none, some (.inr (.inl 1)), none]) (st' := [.inr (.inr 103), .inr (.inr 143)]) rfl ?_
          refine jw_W_gf rfl rfl rfl ?_
          show jw_W (js_S n) _ md_327 21 [some (.inr (.inr 103)), some (.inr (.inl v)), none, some (.inr (.inl 1)), none] [.inl (σ 103 73 + 1), .inr (.inr 143)] ((jw_up (jw_up σ 143 (σ 103 73) (48 + (v / 10 % 10))) 103 73 (σ 103 73 + 1))) _
          refine jw_W_n 3 (i' := 24) (ls' := [some (.inr (.inr 103)), some (.inr (.inl v)), none, some (.inr (.inl 1)), none]) (st' := [.inr (.inl 1), .inr (.inl v), .inl 48, .inl (σ 103 73 + 1), .inr (.inr 143)]) rfl ?_
          refine jw_W_ldiv rfl (by unfold jw_rgl; omega) (by omega) ?_
          rw [show jw_ldiv v 1 = v from by rw [jn_ldv (by omega) (by omega) (by omega) (by omega)]; omega]
          refine jw_W_ld2 (z := 10) rfl rfl ?_
          refine jw_W_lrem rfl (by unfold jw_rgl; omega) (by omega) ?_
          rw [jm_lrem (by omega) (by omega) (by omega) (by omega)]
          refine jw_W_n 2 (i' := 29) (ls' := [some (.inr (.inr 103)), some (.inr (.inl v)), none, some (.inr (.inl 1)), none]) (st' := [.inl (48 + (v % 10)), .inl (σ 103 73 + 1), .inr (.inr 143)]) rfl ?_
          refine jw_W_is rfl (by omega) rfl (by omega) (by omega) (by omega) ?_
          refine jw_W_n 2 (i' := 32) (ls' := [some (.inr (.inr 103)), some (.inr (.inl v)), none, some (.inr (.inl 1)), none]) (st' := [.inr (.inr 103), .inr (.inr 103)]) rfl ?_
          refine jw_W_gf rfl rfl rfl ?_
          show jw_W (js_S n) _ md_327 33 [some (.inr (.inr 103)), some (.inr (.inl v)), none, some (.inr (.inl 1)), none] [.inl (σ 103 73 + 1), .inr (.inr 103)] ((jw_up (jw_up (jw_up σ 143 (σ 103 73) (48 + (v / 10 % 10))) 103 73 (σ 103 73 + 1)) 143 (σ 103 73 + 1) (48 + (v % 10)))) _
          refine jw_W_n 2 (i' := 35) (ls' := [some (.inr (.inr 103)), some (.inr (.inl v)), none, some (.inr (.inl 1)), none]) (st' := [.inl ((σ 103 73 + 1) + 1), .inr (.inr 103)]) rfl ?_
          refine jw_W_pf (a := (σ 103 73 + 1) + 1) rfl (by omega) rfl rfl rfl rfl rfl ?_
          refine jw_W_n 1 (i' := 37) (ls' := [some (.inr (.inr 103)), some (.inr (.inl v)), none, some (.inr (.inl 1)), none]) (st' := [.inr (.inl 1)]) rfl ?_
          refine jw_W_ld2 (z := 10) rfl rfl ?_
          refine jw_W_ldiv rfl (by unfold jw_rgl; omega) (by omega) ?_
          rw [show jw_ldiv 1 10 = 0 from by decide +kernel]
          refine jw_W_n 4 (i' := 15) (ls' := [some (.inr (.inr 103)), some (.inr (.inl v)), none, some (.inr (.inl 0)), none]) (st' := [.inr (.inl 0), .inr (.inl 0)]) rfl ?_
          refine jw_W_lc rfl rfl (by unfold jw_rgl; omega) (by unfold jw_rgl; omega) (fun hc7 => ?_) (fun hc7 => ?_)
          · clear hc7
            refine jw_W_re rfl ?_
            have hL1 := jn_tl_add (c := 48 + v / 10 % 10) (by decide) hL
            have hL2 := jn_tl_add (c := 48 + v % 10) (by decide) hL1
            have hd : L ++ jn_dg v = ((L ++ [48 + v / 10 % 10]) ++ [48 + v % 10]) := by
              unfold jn_dg
              rw [if_neg (by omega), if_pos (by omega)]
              all_goals simp only [List.append_assoc, List.cons_append, List.nil_append]
            rw [hd]
            exact ⟨rfl, by refine jn_wg_tr ?_ jn_wg_up; exact jn_wg_up, hL2⟩
          · exact absurd hc7 (show ¬ ¬ ((0 : Int) ≤ 0) by omega)
    · have hc4 : ¬ ((v / 10) ≤ 9) := hc4
      refine jw_W_n 1 (i' := 9) (ls' := [some (.inr (.inr 103)), some (.inr (.inl v)), none, some (.inr (.inl 10)), none]) (st' := [.inr (.inl 10)]) rfl ?_
      refine jw_W_ld2 (z := 10) rfl rfl ?_
      refine jw_W_n 5 (i' := 4) (ls' := [some (.inr (.inr 103)), some (.inr (.inl v)), none, some (.inr (.inl 100)), none]) (st' := [.inr (.inl 100), .inr (.inl v)]) rfl ?_
      refine jw_W_ldiv rfl (by unfold jw_rgl; omega) (by omega) ?_
      rw [show jw_ldiv v 100 = v / 100 from by rw [jn_ldv (by omega) (by omega) (by omega) (by omega)]]
      refine jw_W_ld2 (z := 9) rfl rfl ?_
      refine jw_W_lc rfl rfl (by unfold jw_rgl; omega) (by unfold jw_rgl; omega) (fun hc8 => ?_) (fun hc8 => ?_)
      · have hc8 : (v / 100) ≤ 9 := hc8
        refine jw_W_n 2 (i' := 15) (ls' := [some (.inr (.inr 103)), some (.inr (.inl v)), none, some (.inr (.inl 100)), none]) (st' := [.inr (.inl 0), .inr (.inl 100)]) rfl ?_
        refine jw_W_lc rfl rfl (by unfold jw_rgl; omega) (by unfold jw_rgl; omega) (fun hc9 => ?_) (fun hc9 => ?_)
        · exact absurd hc9 (show ¬ ((100 : Int) ≤ 0) by omega)
        · clear hc9
          refine jw_W_n 1 (i' := 18) (ls' := [some (.inr (.inr 103)), some (.inr (.inl v)), none, some (.inr (.inl 100)), none]) (st' := [.inr (.inr 103)]) rfl ?_
          refine jw_W_gf rfl rfl rfl ?_
          show jw_W (js_S n) _ md_327 19 [some (.inr (.inr 103)), some (.inr (.inl v)), none, some (.inr (.inl 100)), none] [.inr (.inr 143)] σ _
          refine jw_W_n 1 (i' := 20) (ls' := [some (.inr (.inr 103)), some (.inr (.inl v)), none, some (.inr (.inl 100)), none]) (st' := [.inr (.inr 103), .inr (.inr 143)]) rfl ?_
          refine jw_W_gf rfl rfl rfl ?_
          show jw_W (js_S n) _ md_327 21 [some (.inr (.inr 103)), some (.inr (.inl v)), none, some (.inr (.inl 100)), none] [.inl (σ 103 73), .inr (.inr 143)] σ _
          refine jw_W_n 3 (i' := 24) (ls' := [some (.inr (.inr 103)), some (.inr (.inl v)), none, some (.inr (.inl 100)), none]) (st' := [.inr (.inl 100), .inr (.inl v), .inl 48, .inl (σ 103 73), .inr (.inr 143)]) rfl ?_
          refine jw_W_ldiv rfl (by unfold jw_rgl; omega) (by omega) ?_
          rw [show jw_ldiv v 100 = v / 100 from by rw [jn_ldv (by omega) (by omega) (by omega) (by omega)]]
          refine jw_W_ld2 (z := 10) rfl rfl ?_
          refine jw_W_lrem rfl (by unfold jw_rgl; omega) (by omega) ?_
          rw [jm_lrem (by omega) (by omega) (by omega) (by omega)]
          refine jw_W_n 2 (i' := 29) (ls' := [some (.inr (.inr 103)), some (.inr (.inl v)), none, some (.inr (.inl 100)), none]) (st' := [.inl (48 + (v / 100 % 10)), .inl (σ 103 73), .inr (.inr 143)]) rfl ?_
          refine jw_W_is rfl (by omega) rfl (by omega) (by omega) (by omega) ?_
          refine jw_W_n 2 (i' := 32) (ls' := [some (.inr (.inr 103)), some (.inr (.inl v)), none, some (.inr (.inl 100)), none]) (st' := [.inr (.inr 103), .inr (.inr 103)]) rfl ?_
          refine jw_W_gf rfl rfl rfl ?_
          show jw_W (js_S n) _ md_327 33 [some (.inr (.inr 103)), some (.inr (.inl v)), none, some (.inr (.inl 100)), none] [.inl (σ 103 73), .inr (.inr 103)] ((jw_up σ 143 (σ 103 73) (48 + (v / 100 % 10)))) _
          refine jw_W_n 2 (i' := 35) (ls' := [some (.inr (.inr 103)), some (.inr (.inl v)), none, some (.inr (.inl 100)), none]) (st' := [.inl (σ 103 73 + 1), .inr (.inr 103)]) rfl ?_
          refine jw_W_pf (a := σ 103 73 + 1) rfl (by omega) rfl rfl rfl rfl rfl ?_
          refine jw_W_n 1 (i' := 37) (ls' := [some (.inr (.inr 103)), some (.inr (.inl v)), none, some (.inr (.inl 100)), none]) (st' := [.inr (.inl 100)]) rfl ?_
          refine jw_W_ld2 (z := 10) rfl rfl ?_
          refine jw_W_ldiv rfl (by unfold jw_rgl; omega) (by omega) ?_
          rw [show jw_ldiv 100 10 = 10 from by decide +kernel]
          refine jw_W_n 4 (i' := 15) (ls' := [some (.inr (.inr 103)), some (.inr (.inl v)), none, some (.inr (.inl 10)), none]) (st' := [.inr (.inl 0), .inr (.inl 10)]) rfl ?_
          refine jw_W_lc rfl rfl (by unfold jw_rgl; omega) (by unfold jw_rgl; omega) (fun hc10 => ?_) (fun hc10 => ?_)
          · exact absurd hc10 (show ¬ ((10 : Int) ≤ 0) by omega)
          · clear hc10
            refine jw_W_n 1 (i' := 18) (ls' := [some (.inr (.inr 103)), some (.inr (.inl v)), none, some (.inr (.inl 10)), none]) (st' := [.inr (.inr 103)]) rfl ?_
            refine jw_W_gf rfl rfl rfl ?_
            show jw_W (js_S n) _ md_327 19 [some (.inr (.inr 103)), some (.inr (.inl v)), none, some (.inr (.inl 10)), none] [.inr (.inr 143)] ((jw_up (jw_up σ 143 (σ 103 73) (48 + (v / 100 % 10))) 103 73 (σ 103 73 + 1))) _
            refine jw_W_n 1 (i' := 20) (ls' := [some (.inr (.inr 103)), some (.inr (.inl v)), none, some (.inr (.inl 10)), none]) (st' := [.inr (.inr 103), .inr (.inr 143)]) rfl ?_
            refine jw_W_gf rfl rfl rfl ?_
            show jw_W (js_S n) _ md_327 21 [some (.inr (.inr 103)), some (.inr (.inl v)), none, some (.inr (.inl 10)), none] [.inl (σ 103 73 + 1), .inr (.inr 143)] ((jw_up (jw_up σ 143 (σ 103 73) (48 + (v / 100 % 10))) 103 73 (σ 103 73 + 1))) _
            refine jw_W_n 3 (i' := 24) (ls' := [some (.inr (.inr 103)), some (.inr (.inl v)), none, some (.inr (.inl 10)), none]) (st' := [.inr (.inl 10), .inr (.inl v), .inl 48, .inl (σ 103 73 + 1), .inr (.inr 143)]) rfl ?_
            refine jw_W_ldiv rfl (by unfold jw_rgl; omega) (by omega) ?_
            rw [show jw_ldiv v 10 = v / 10 from by rw [jn_ldv (by omega) (by omega) (by omega) (by omega)]]
            refine jw_W_ld2 (z := 10) rfl rfl ?_
            refine jw_W_lrem rfl (by unfold jw_rgl; omega) (by omega) ?_
            rw [jm_lrem (by omega) (by omega) (by omega) (by omega)]
            refine jw_W_n 2 (i' := 29) (ls' := [some (.inr (.inr 103)), some (.inr (.inl v)), none, some (.inr (.inl 10)), none]) (st' := [.inl (48 + (v / 10 % 10)), .inl (σ 103 73 + 1), .inr (.inr 143)]) rfl ?_
            refine jw_W_is rfl (by omega) rfl (by omega) (by omega) (by omega) ?_
            refine jw_W_n 2 (i' := 32) (ls' := [some (.inr (.inr 103)), some (.inr (.inl v)), none, some (.inr (.inl 10)), none]) (st' := [.inr (.inr 103), .inr (.inr 103)]) rfl ?_
            refine jw_W_gf rfl rfl rfl ?_
            show jw_W (js_S n) _ md_327 33 [some (.inr (.inr 103)), some (.inr (.inl v)), none, some (.inr (.inl 10)), none] [.inl (σ 103 73 + 1), .inr (.inr 103)] ((jw_up (jw_up (jw_up σ 143 (σ 103 73) (48 + (v / 100 % 10))) 103 73 (σ 103 73 + 1)) 143 (σ 103 73 + 1) (48 + (v / 10 % 10)))) _
            refine jw_W_n 2 (i' := 35) (ls' := [some (.inr (.inr 103)), some (.inr (.inl v)), none, some (.inr (.inl 10)), none]) (st' := [.inl ((σ 103 73 + 1) + 1), .inr (.inr 103)]) rfl ?_
            refine jw_W_pf (a := (σ 103 73 + 1) + 1) rfl (by omega) rfl rfl rfl rfl rfl ?_
            refine jw_W_n 1 (i' := 37) (ls' := [some (.inr (.inr 103)), some (.inr (.inl v)), none, some (.inr (.inl 10)), none]) (st' := [.inr (.inl 10)]) rfl ?_
            refine jw_W_ld2 (z := 10) rfl rfl ?_
            refine jw_W_ldiv rfl (by unfold jw_rgl; omega) (by omega) ?_
            rw [show jw_ldiv 10 10 = 1 from by decide +kernel]
            refine jw_W_n 4 (i' := 15) (ls' := [some (.inr (.inr 103)), some (.inr (.inl v)), none, some (.inr (.inl 1)), none]) (st' := [.inr (.inl 0), .inr (.inl 1)]) rfl ?_
            refine jw_W_lc rfl rfl (by unfold jw_rgl; omega) (by unfold jw_rgl; omega) (fun hc11 => ?_) (fun hc11 => ?_)
            · exact absurd hc11 (show ¬ ((1 : Int) ≤ 0) by omega)
            · clear hc11
              refine jw_W_n 1 (i' := 18) (ls' := [some (.inr (.inr 103)), some (.inr (.inl v)), none, some (.inr (.inl 1)), none]) (st' := [.inr (.inr 103)]) rfl ?_
              refine jw_W_gf rfl rfl rfl ?_
              show jw_W (js_S n) _ md_327 19 [some (.inr (.inr 103)), some (.inr (.inl v)), none, some (.inr (.inl 1)), none] [.inr (.inr 143)] ((jw_up (jw_up (jw_up (jw_up σ 143 (σ 103 73) (48 + (v / 100 % 10))) 103 73 (σ 103 73 + 1)) 143 (σ 103 73 + 1) (48 + (v / 10 % 10))) 103 73 ((σ 103 73 + 1) + 1))) _
              refine jw_W_n 1 (i' := 20) (ls' := [some (.inr (.inr 103)), some (.inr (.inl v)), none, some (.inr (.inl 1)), none]) (st' := [.inr (.inr 103), .inr (.inr 143)]) rfl ?_
              refine jw_W_gf rfl rfl rfl ?_
              show jw_W (js_S n) _ md_327 21 [some (.inr (.inr 103)), some (.inr (.inl v)), none, some (.inr (.inl 1)), none] [.inl ((σ 103 73 + 1) + 1), .inr (.inr 143)] ((jw_up (jw_up (jw_up (jw_up σ 143 (σ 103 73) (48 + (v / 100 % 10))) 103 73 (σ 103 73 + 1)) 143 (σ 103 73 + 1) (48 + (v / 10 % 10))) 103 73 ((σ 103 73 + 1) + 1))) _
              refine jw_W_n 3 (i' := 24) (ls' := [some (.inr (.inr 103)), some (.inr (.inl v)), none, some (.inr (.inl 1)), none]) (st' := [.inr (.inl 1), .inr (.inl v), .inl 48, .inl ((σ 103 73 + 1) + 1), .inr (.inr 143)]) rfl ?_
              refine jw_W_ldiv rfl (by unfold jw_rgl; omega) (by omega) ?_
              rw [show jw_ldiv v 1 = v from by rw [jn_ldv (by omega) (by omega) (by omega) (by omega)]; omega]
              refine jw_W_ld2 (z := 10) rfl rfl ?_
              refine jw_W_lrem rfl (by unfold jw_rgl; omega) (by omega) ?_
              rw [jm_lrem (by omega) (by omega) (by omega) (by omega)]
              refine jw_W_n 2 (i' := 29) (ls' := [some (.inr (.inr 103)), some (.inr (.inl v)), none, some (.inr (.inl 1)), none]) (st' := [.inl (48 + (v % 10)), .inl ((σ 103 73 + 1) + 1), .inr (.inr 143)]) rfl ?_
              refine jw_W_is rfl (by omega) rfl (by omega) (by omega) (by omega) ?_
              refine jw_W_n 2 (i' := 32) (ls' := [some (.inr (.inr 103)), some (.inr (.inl v)), none, some (.inr (.inl 1)), none]) (st' := [.inr (.inr 103), .inr (.inr 103)]) rfl ?_
              refine jw_W_gf rfl rfl rfl ?_
              show jw_W (js_S n) _ md_327 33 [some (.inr (.inr 103)), some (.inr (.inl v)), none, some (.inr (.inl 1)), none] [.inl ((σ 103 73 + 1) + 1), .inr (.inr 103)] ((jw_up (jw_up (jw_up (jw_up (jw_up σ 143 (σ 103 73) (48 + (v / 100 % 10))) 103 73 (σ 103 73 + 1)) 143 (σ 103 73 + 1) (48 + (v / 10 % 10))) 103 73 ((σ 103 73 + 1) + 1)) 143 ((σ 103 73 + 1) + 1) (48 + (v % 10)))) _
              refine jw_W_n 2 (i' := 35) (ls' := [some (.inr (.inr 103)), some (.inr (.inl v)), none, some (.inr (.inl 1)), none]) (st' := [.inl (((σ 103 73 + 1) + 1) + 1), .inr (.inr 103)]) rfl ?_
              refine jw_W_pf (a := ((σ 103 73 + 1) + 1) + 1) rfl (by omega) rfl rfl rfl rfl rfl ?_
              refine jw_W_n 1 (i' := 37) (ls' := [some (.inr (.inr 103)), some (.inr (.inl v)), none, some (.inr (.inl 1)), none]) (st' := [.inr (.inl 1)]) rfl ?_
              refine jw_W_ld2 (z := 10) rfl rfl ?_
              refine jw_W_ldiv rfl (by unfold jw_rgl; omega) (by omega) ?_
              rw [show jw_ldiv 1 10 = 0 from by decide +kernel]
              refine jw_W_n 4 (i' := 15) (ls' := [some (.inr (.inr 103)), some (.inr (.inl v)), none, some (.inr (.inl 0)), none]) (st' := [.inr (.inl 0), .inr (.inl 0)]) rfl ?_
              refine jw_W_lc rfl rfl (by unfold jw_rgl; omega) (by unfold jw_rgl; omega) (fun hc12 => ?_) (fun hc12 => ?_)
              · clear hc12
                refine jw_W_re rfl ?_
                have hL1 := jn_tl_add (c := 48 + v / 100 % 10) (by decide) hL
                have hL2 := jn_tl_add (c := 48 + v / 10 % 10) (by decide) hL1
                have hL3 := jn_tl_add (c := 48 + v % 10) (by decide) hL2
                have hd : L ++ jn_dg v = (((L ++ [48 + v / 100 % 10]) ++ [48 + v / 10 % 10]) ++ [48 + v % 10]) := by
                  unfold jn_dg
                  rw [if_neg (by omega), if_neg (by omega), if_pos (by omega)]
                  all_goals simp only [List.append_assoc, List.cons_append, List.nil_append]
                rw [hd]
                exact ⟨rfl, by refine jn_wg_tr ?_ jn_wg_up; refine jn_wg_tr ?_ jn_wg_up; exact jn_wg_up, hL3⟩
              · exact absurd hc12 (show ¬ ¬ ((0 : Int) ≤ 0) by omega)
      · have hc8 : ¬ ((v / 100) ≤ 9) := hc8
        refine jw_W_n 1 (i' := 9) (ls' := [some (.inr (.inr 103)), some (.inr (.inl v)), none, some (.inr (.inl 100)), none]) (st' := [.inr (.inl 100)]) rfl ?_
        refine jw_W_ld2 (z := 10) rfl rfl ?_
        refine jw_W_n 5 (i' := 4) (ls' := [some (.inr (.inr 103)), some (.inr (.inl v)), none, some (.inr (.inl 1000)), none]) (st' := [.inr (.inl 1000), .inr (.inl v)]) rfl ?_
        refine jw_W_ldiv rfl (by unfold jw_rgl; omega) (by omega) ?_
        rw [show jw_ldiv v 1000 = v / 1000 from by rw [jn_ldv (by omega) (by omega) (by omega) (by omega)]]
        refine jw_W_ld2 (z := 9) rfl rfl ?_
        refine jw_W_lc rfl rfl (by unfold jw_rgl; omega) (by unfold jw_rgl; omega) (fun hc13 => ?_) (fun hc13 => ?_)
        · have hc13 : (v / 1000) ≤ 9 := hc13
          refine jw_W_n 2 (i' := 15) (ls' := [some (.inr (.inr 103)), some (.inr (.inl v)), none, some (.inr (.inl 1000)), none]) (st' := [.inr (.inl 0), .inr (.inl 1000)]) rfl ?_
          refine jw_W_lc rfl rfl (by unfold jw_rgl; omega) (by unfold jw_rgl; omega) (fun hc14 => ?_) (fun hc14 => ?_)
          · exact absurd hc14 (show ¬ ((1000 : Int) ≤ 0) by omega)
          · clear hc14
            refine jw_W_n 1 (i' := 18) (ls' := [some (.inr (.inr 103)), some (.inr (.inl v)), none, some (.inr (.inl 1000)), none]) (st' := [.inr (.inr 103)]) rfl ?_
            refine jw_W_gf rfl rfl rfl ?_
            show jw_W (js_S n) _ md_327 19 [some (.inr (.inr 103)), some (.inr (.inl v)), none, some (.inr (.inl 1000)), none] [.inr (.inr 143)] σ _
            refine jw_W_n 1 (i' := 20) (ls' := [some (.inr (.inr 103)), some (.inr (.inl v)), none, some (.inr (.inl 1000)), none]) (st' := [.inr (.inr 103), .inr (.inr 143)]) rfl ?_
            refine jw_W_gf rfl rfl rfl ?_
            show jw_W (js_S n) _ md_327 21 [some (.inr (.inr 103)), some (.inr (.inl v)), none, some (.inr (.inl 1000)), none] [.inl (σ 103 73), .inr (.inr 143)] σ _
            refine jw_W_n 3 (i' := 24) (ls' := [some (.inr (.inr 103)), some (.inr (.inl v)), none, some (.inr (.inl 1000)), none]) (st' := [.inr (.inl 1000), .inr (.inl v), .inl 48, .inl (σ 103 73), .inr (.inr 143)]) rfl ?_
            refine jw_W_ldiv rfl (by unfold jw_rgl; omega) (by omega) ?_
            rw [show jw_ldiv v 1000 = v / 1000 from by rw [jn_ldv (by omega) (by omega) (by omega) (by omega)]]
            refine jw_W_ld2 (z := 10) rfl rfl ?_
            refine jw_W_lrem rfl (by unfold jw_rgl; omega) (by omega) ?_
            rw [jm_lrem (by omega) (by omega) (by omega) (by omega)]
            refine jw_W_n 2 (i' := 29) (ls' := [some (.inr (.inr 103)), some (.inr (.inl v)), none, some (.inr (.inl 1000)), none]) (st' := [.inl (48 + (v / 1000 % 10)), .inl (σ 103 73), .inr (.inr 143)]) rfl ?_
            refine jw_W_is rfl (by omega) rfl (by omega) (by omega) (by omega) ?_
            refine jw_W_n 2 (i' := 32) (ls' := [some (.inr (.inr 103)), some (.inr (.inl v)), none, some (.inr (.inl 1000)), none]) (st' := [.inr (.inr 103), .inr (.inr 103)]) rfl ?_
            refine jw_W_gf rfl rfl rfl ?_
            show jw_W (js_S n) _ md_327 33 [some (.inr (.inr 103)), some (.inr (.inl v)), none, some (.inr (.inl 1000)), none] [.inl (σ 103 73), .inr (.inr 103)] ((jw_up σ 143 (σ 103 73) (48 + (v / 1000 % 10)))) _
            refine jw_W_n 2 (i' := 35) (ls' := [some (.inr (.inr 103)), some (.inr (.inl v)), none, some (.inr (.inl 1000)), none]) (st' := [.inl (σ 103 73 + 1), .inr (.inr 103)]) rfl ?_
            refine jw_W_pf (a := σ 103 73 + 1) rfl (by omega) rfl rfl rfl rfl rfl ?_
            refine jw_W_n 1 (i' := 37) (ls' := [some (.inr (.inr 103)), some (.inr (.inl v)), none, some (.inr (.inl 1000)), none]) (st' := [.inr (.inl 1000)]) rfl ?_
            refine jw_W_ld2 (z := 10) rfl rfl ?_
            refine jw_W_ldiv rfl (by unfold jw_rgl; omega) (by omega) ?_
            rw [show jw_ldiv 1000 10 = 100 from by decide +kernel]
            refine jw_W_n 4 (i' := 15) (ls' := [some (.inr (.inr 103)), some (.inr (.inl v)), none, some (.inr (.inl 100)), none]) (st' := [.inr (.inl 0), .inr (.inl 100)]) rfl ?_
            refine jw_W_lc rfl rfl (by unfold jw_rgl; omega) (by unfold jw_rgl; omega) (fun hc15 => ?_) (fun hc15 => ?_)
            · exact absurd hc15 (show ¬ ((100 : Int) ≤ 0) by omega)
            · clear hc15
              refine jw_W_n 1 (i' := 18) (ls' := [some (.inr (.inr 103)), some (.inr (.inl v)), none, some (.inr (.inl 100)), none]) (st' := [.inr (.inr 103)]) rfl ?_
              refine jw_W_gf rfl rfl rfl ?_
              show jw_W (js_S n) _ md_327 19 [some (.inr (.inr 103)), some (.inr (.inl v)), none, some (.inr (.inl 100)), none] [.inr (.inr 143)] ((jw_up (jw_up σ 143 (σ 103 73) (48 + (v / 1000 % 10))) 103 73 (σ 103 73 + 1))) _
              refine jw_W_n 1 (i' := 20) (ls' := [some (.inr (.inr 103)), some (.inr (.inl v)), none, some (.inr (.inl 100)), none]) (st' := [.inr (.inr 103), .inr (.inr 143)]) rfl ?_
              refine jw_W_gf rfl rfl rfl ?_
              show jw_W (js_S n) _ md_327 21 [some (.inr (.inr 103)), some (.inr (.inl v)), none, some (.inr (.inl 100)), none] [.inl (σ 103 73 + 1), .inr (.inr 143)] ((jw_up (jw_up σ 143 (σ 103 73) (48 + (v / 1000 % 10))) 103 73 (σ 103 73 + 1))) _
              refine jw_W_n 3 (i' := 24) (ls' := [some (.inr (.inr 103)), some (.inr (.inl v)), none, some (.inr (.inl 100)), none]) (st' := [.inr (.inl 100), .inr (.inl v), .inl 48, .inl (σ 103 73 + 1), .inr (.inr 143)]) rfl ?_
              refine jw_W_ldiv rfl (by unfold jw_rgl; omega) (by omega) ?_
              rw [show jw_ldiv v 100 = v / 100 from by rw [jn_ldv (by omega) (by omega) (by omega) (by omega)]]
              refine jw_W_ld2 (z := 10) rfl rfl ?_
              refine jw_W_lrem rfl (by unfold jw_rgl; omega) (by omega) ?_
              rw [jm_lrem (by omega) (by omega) (by omega) (by omega)]
              refine jw_W_n 2 (i' := 29) (ls' := [some (.inr (.inr 103)), some (.inr (.inl v)), none, some (.inr (.inl 100)), none]) (st' := [.inl (48 + (v / 100 % 10)), .inl (σ 103 73 + 1), .inr (.inr 143)]) rfl ?_
              refine jw_W_is rfl (by omega) rfl (by omega) (by omega) (by omega) ?_
              refine jw_W_n 2 (i' := 32) (ls' := [some (.inr (.inr 103)), some (.inr (.inl v)), none, some (.inr (.inl 100)), none]) (st' := [.inr (.inr 103), .inr (.inr 103)]) rfl ?_
              refine jw_W_gf rfl rfl rfl ?_
              show jw_W (js_S n) _ md_327 33 [some (.inr (.inr 103)), some (.inr (.inl v)), none, some (.inr (.inl 100)), none] [.inl (σ 103 73 + 1), .inr (.inr 103)] ((jw_up (jw_up (jw_up σ 143 (σ 103 73) (48 + (v / 1000 % 10))) 103 73 (σ 103 73 + 1)) 143 (σ 103 73 + 1) (48 + (v / 100 % 10)))) _
              refine jw_W_n 2 (i' := 35) (ls' := [some (.inr (.inr 103)), some (.inr (.inl v)), none, some (.inr (.inl 100)), none]) (st' := [.inl ((σ 103 73 + 1) + 1), .inr (.inr 103)]) rfl ?_
              refine jw_W_pf (a := (σ 103 73 + 1) + 1) rfl (by omega) rfl rfl rfl rfl rfl ?_
              refine jw_W_n 1 (i' := 37) (ls' := [some (.inr (.inr 103)), some (.inr (.inl v)), none, some (.inr (.inl 100)), none]) (st' := [.inr (.inl 100)]) rfl ?_
              refine jw_W_ld2 (z := 10) rfl rfl ?_
              refine jw_W_ldiv rfl (by unfold jw_rgl; omega) (by omega) ?_
              rw [show jw_ldiv 100 10 = 10 from by decide +kernel]
              refine jw_W_n 4 (i' := 15) (ls' := [some (.inr (.inr 103)), some (.inr (.inl v)), none, some (.inr (.inl 10)), none]) (st' := [.inr (.inl 0), .inr (.inl 10)]) rfl ?_
              refine jw_W_lc rfl rfl (by unfold jw_rgl; omega) (by unfold jw_rgl; omega) (fun hc16 => ?_) (fun hc16 => ?_)
              · exact absurd hc16 (show ¬ ((10 : Int) ≤ 0) by omega)
              · clear hc16
                refine jw_W_n 1 (i' := 18) (ls' := [some (.inr (.inr 103)), some (.inr (.inl v)), none, some (.inr (.inl 10)), none]) (st' := [.inr (.inr 103)]) rfl ?_
                refine jw_W_gf rfl rfl rfl ?_
                show jw_W (js_S n) _ md_327 19 [some (.inr (.inr 103)), some (.inr (.inl v)), none, some (.inr (.inl 10)), none] [.inr (.inr 143)] ((jw_up (jw_up (jw_up (jw_up σ 143 (σ 103 73) (48 + (v / 1000 % 10))) 103 73 (σ 103 73 + 1)) 143 (σ 103 73 + 1) (48 + (v / 100 % 10))) 103 73 ((σ 103 73 + 1) + 1))) _
                refine jw_W_n 1 (i' := 20) (ls' := [some (.inr (.inr 103)), some (.inr (.inl v)), none, some (.inr (.inl 10)), none]) (st' := [.inr (.inr 103), .inr (.inr 143)]) rfl ?_
                refine jw_W_gf rfl rfl rfl ?_
                show jw_W (js_S n) _ md_327 21 [some (.inr (.inr 103)), some (.inr (.inl v)), none, some (.inr (.inl 10)), none] [.inl ((σ 103 73 + 1) + 1), .inr (.inr 143)] ((jw_up (jw_up (jw_up (jw_up σ 143 (σ 103 73) (48 + (v / 1000 % 10))) 103 73 (σ 103 73 + 1)) 143 (σ 103 73 + 1) (48 + (v / 100 % 10))) 103 73 ((σ 103 73 + 1) + 1))) _
                refine jw_W_n 3 (i' := 24) (ls' := [some (.inr (.inr 103)), some (.inr (.inl v)), none, some (.inr (.inl 10)), none]) (st' := [.inr (.inl 10), .inr (.inl v), .inl 48, .inl ((σ 103 73 + 1) + 1), .inr (.inr 143)]) rfl ?_
                refine jw_W_ldiv rfl (by unfold jw_rgl; omega) (by omega) ?_
                rw [show jw_ldiv v 10 = v / 10 from by rw [jn_ldv (by omega) (by omega) (by omega) (by omega)]]
                refine jw_W_ld2 (z := 10) rfl rfl ?_
                refine jw_W_lrem rfl (by unfold jw_rgl; omega) (by omega) ?_
                rw [jm_lrem (by omega) (by omega) (by omega) (by omega)]
                refine jw_W_n 2 (i' := 29) (ls' := [some (.inr (.inr 103)), some (.inr (.inl v)), none, some (.inr (.inl 10)), none]) (st' := [.inl (48 + (v / 10 % 10)), .inl ((σ 103 73 + 1) + 1), .inr (.inr 143)]) rfl ?_
                refine jw_W_is rfl (by omega) rfl (by omega) (by omega) (by omega) ?_
                refine jw_W_n 2 (i' := 32) (ls' := [some (.inr (.inr 103)), some (.inr (.inl v)), none, some (.inr (.inl 10)), none]) (st' := [.inr (.inr 103), .inr (.inr 103)]) rfl ?_
                refine jw_W_gf rfl rfl rfl ?_
                show jw_W (js_S n) _ md_327 33 [some (.inr (.inr 103)), some (.inr (.inl v)), none, some (.inr (.inl 10)), none] [.inl ((σ 103 73 + 1) + 1), .inr (.inr 103)] ((jw_up (jw_up (jw_up (jw_up (jw_up σ 143 (σ 103 73) (48 + (v / 1000 % 10))) 103 73 (σ 103 73 + 1)) 143 (σ 103 73 + 1) (48 + (v / 100 % 10))) 103 73 ((σ 103 73 + 1) + 1)) 143 ((σ 103 73 + 1) + 1) (48 + (v / 10 % 10)))) _
                refine jw_W_n 2 (i' := 35) (ls' := [some (.inr (.inr 103)), some (.inr (.inl v)), none, some (.inr (.inl 10)), none]) (st' := [.inl (((σ 103 73 + 1) + 1) + 1), .inr (.inr 103)]) rfl ?_
                refine jw_W_pf (a := ((σ 103 73 + 1) + 1) + 1) rfl (by omega) rfl rfl rfl rfl rfl ?_
                refine jw_W_n 1 (i' := 37) (ls' := [some (.inr (.inr 103)), some (.inr (.inl v)), none, some (.inr (.inl 10)), none]) (st' := [.inr (.inl 10)]) rfl ?_
                refine jw_W_ld2 (z := 10) rfl rfl ?_
                refine jw_W_ldiv rfl (by unfold jw_rgl; omega) (by omega) ?_
                rw [show jw_ldiv 10 10 = 1 from by decide +kernel]
                refine jw_W_n 4 (i' := 15) (ls' := [some (.inr (.inr 103)), some (.inr (.inl v)), none, some (.inr (.inl 1)), none]) (st' := [.inr (.inl 0), .inr (.inl 1)]) rfl ?_
                refine jw_W_lc rfl rfl (by unfold jw_rgl; omega) (by unfold jw_rgl; omega) (fun hc17 => ?_) (fun hc17 => ?_)
                · exact absurd hc17 (show ¬ ((1 : Int) ≤ 0) by omega)
                · clear hc17
                  refine jw_W_n 1 (i' := 18) (ls' := [some (.inr (.inr 103)), some (.inr (.inl v)), none, some (.inr (.inl 1)), none]) (st' := [.inr (.inr 103)]) rfl ?_
                  refine jw_W_gf rfl rfl rfl ?_
                  show jw_W (js_S n) _ md_327 19 [some (.inr (.inr 103)), some (.inr (.inl v)), none, some (.inr (.inl 1)), none] [.inr (.inr 143)] ((jw_up (jw_up (jw_up (jw_up (jw_up (jw_up σ 143 (σ 103 73) (48 + (v / 1000 % 10))) 103 73 (σ 103 73 + 1)) 143 (σ 103 73 + 1) (48 + (v / 100 % 10))) 103 73 ((σ 103 73 + 1) + 1)) 143 ((σ 103 73 + 1) + 1) (48 + (v / 10 % 10))) 103 73 (((σ 103 73 + 1) + 1) + 1))) _
                  refine jw_W_n 1 (i' := 20) (ls' := [some (.inr (.inr 103)), some (.inr (.inl v)), none, some (.inr (.inl 1)), none]) (st' := [.inr (.inr 103), .inr (.inr 143)]) rfl ?_
                  refine jw_W_gf rfl rfl rfl ?_
                  show jw_W (js_S n) _ md_327 21 [some (.inr (.inr 103)), some (.inr (.inl v)), none, some (.inr (.inl 1)), none] [.inl (((σ 103 73 + 1) + 1) + 1), .inr (.inr 143)] ((jw_up (jw_up (jw_up (jw_up (jw_up (jw_up σ 143 (σ 103 73) (48 + (v / 1000 % 10))) 103 73 (σ 103 73 + 1)) 143 (σ 103 73 + 1) (48 + (v / 100 % 10))) 103 73 ((σ 103 73 + 1) + 1)) 143 ((σ 103 73 + 1) + 1) (48 + (v / 10 % 10))) 103 73 (((σ 103 73 + 1) + 1) + 1))) _
                  refine jw_W_n 3 (i' := 24) (ls' := [some (.inr (.inr 103)), some (.inr (.inl v)), none, some (.inr (.inl 1)), none]) (st' := [.inr (.inl 1), .inr (.inl v), .inl 48, .inl (((σ 103 73 + 1) + 1) + 1), .inr (.inr 143)]) rfl ?_
                  refine jw_W_ldiv rfl (by unfold jw_rgl; omega) (by omega) ?_
                  rw [show jw_ldiv v 1 = v from by rw [jn_ldv (by omega) (by omega) (by omega) (by omega)]; omega]
                  refine jw_W_ld2 (z := 10) rfl rfl ?_
                  refine jw_W_lrem rfl (by unfold jw_rgl; omega) (by omega) ?_
                  rw [jm_lrem (by omega) (by omega) (by omega) (by omega)]
                  refine jw_W_n 2 (i' := 29) (ls' := [some (.inr (.inr 103)), some (.inr (.inl v)), none, some (.inr (.inl 1)), none]) (st' := [.inl (48 + (v % 10)), .inl (((σ 103 73 + 1) + 1) + 1), .inr (.inr 143)]) rfl ?_
                  refine jw_W_is rfl (by omega) rfl (by omega) (by omega) (by omega) ?_
                  refine jw_W_n 2 (i' := 32) (ls' := [some (.inr (.inr 103)), some (.inr (.inl v)), none, some (.inr (.inl 1)), none]) (st' := [.inr (.inr 103), .inr (.inr 103)]) rfl ?_
                  refine jw_W_gf rfl rfl rfl ?_
                  show jw_W (js_S n) _ md_327 33 [some (.inr (.inr 103)), some (.inr (.inl v)), none, some (.inr (.inl 1)), none] [.inl (((σ 103 73 + 1) + 1) + 1), .inr (.inr 103)] ((jw_up (jw_up (jw_up (jw_up (jw_up (jw_up (jw_up σ 143 (σ 103 73) (48 + (v / 1000 % 10))) 103 73 (σ 103 73 + 1)) 143 (σ 103 73 + 1) (48 + (v / 100 % 10))) 103 73 ((σ 103 73 + 1) + 1)) 143 ((σ 103 73 + 1) + 1) (48 + (v / 10 % 10))) 103 73 (((σ 103 73 + 1) + 1) + 1)) 143 (((σ 103 73 + 1) + 1) + 1) (48 + (v % 10)))) _
                  refine jw_W_n 2 (i' := 35) (ls' := [some (.inr (.inr 103)), some (.inr (.inl v)), none, some (.inr (.inl 1)), none]) (st' := [.inl ((((σ 103 73 + 1) + 1) + 1) + 1), .inr (.inr 103)]) rfl ?_
                  refine jw_W_pf (a := (((σ 103 73 + 1) + 1) + 1) + 1) rfl (by omega) rfl rfl rfl rfl rfl ?_
                  refine jw_W_n 1 (i' := 37) (ls' := [some (.inr (.inr 103)), some (.inr (.inl v)), none, some (.inr (.inl 1)), none]) (st' := [.inr (.inl 1)]) rfl ?_
                  refine jw_W_ld2 (z := 10) rfl rfl ?_
                  refine jw_W_ldiv rfl (by unfold jw_rgl; omega) (by omega) ?_
                  rw [show jw_ldiv 1 10 = 0 from by decide +kernel]
                  refine jw_W_n 4 (i' := 15) (ls' := [some (.inr (.inr 103)), some (.inr (.inl v)), none, some (.inr (.inl 0)), none]) (st' := [.inr (.inl 0), .inr (.inl 0)]) rfl ?_
                  refine jw_W_lc rfl rfl (by unfold jw_rgl; omega) (by unfold jw_rgl; omega) (fun hc18 => ?_) (fun hc18 => ?_)
                  · clear hc18
                    refine jw_W_re rfl ?_
                    have hL1 := jn_tl_add (c := 48 + v / 1000 % 10) (by decide) hL
                    have hL2 := jn_tl_add (c := 48 + v / 100 % 10) (by decide) hL1
                    have hL3 := jn_tl_add (c := 48 + v / 10 % 10) (by decide) hL2
                    have hL4 := jn_tl_add (c := 48 + v % 10) (by decide) hL3
                    have hd : L ++ jn_dg v = ((((L ++ [48 + v / 1000 % 10]) ++ [48 + v / 100 % 10]) ++ [48 + v / 10 % 10]) ++ [48 + v % 10]) := by
                      unfold jn_dg
                      rw [if_neg (by omega), if_neg (by omega), if_neg (by omega)]
                      all_goals simp only [List.append_assoc, List.cons_append, List.nil_append]
                    rw [hd]
                    exact ⟨rfl, by refine jn_wg_tr ?_ jn_wg_up; refine jn_wg_tr ?_ jn_wg_up; refine jn_wg_tr ?_ jn_wg_up; exact jn_wg_up, hL4⟩
                  · exact absurd hc18 (show ¬ ¬ ((0 : Int) ≤ 0) by omega)
        · have hc13 : ¬ ((v / 1000) ≤ 9) := hc13
          exfalso; omega
theorem jn_tx_s {σ : jw_H} {i q : Int} (q0 : 0 ≤ q) : jn_tx σ i (q + 1).toNat = (jn_tx σ i q.toNat ++ if q = 0 then [] else [44]) ++ jn_fx (jm_of (jm_cc σ i q) (σ 135 i) 0) (jm_of (jm_cc σ i q) (σ 135 i) 1) := by
  rw [show (q + 1).toNat = q.toNat + 1 by omega, show jn_tx σ i (q.toNat + 1) = (jn_tx σ i q.toNat ++ if q.toNat = 0 then [] else [44]) ++ jn_fx (jm_of (jm_cc σ i ((q.toNat : Nat) : Int)) (σ 135 i) 0) (jm_of (jm_cc σ i ((q.toNat : Nat) : Int)) (σ 135 i) 1) from rfl, Int.toNat_of_nonneg q0]
  by_cases h : q = 0
  · rw [if_pos h, if_pos (by omega)]
  · rw [if_neg h, if_neg (by omega)]
theorem jn_cc_bd {σ : jw_H} (hcb : jm_cbd σ) {i q : Int} (i0 : 0 ≤ i) (i1 : i < σ 103 56) : 0 ≤ jm_cc σ i q ∧ jm_cc σ i q ≤ 1458 := by
  obtain ⟨a, b, c, -⟩ := (hcb.2 i i0 i1).1
  unfold jm_cc
  split
  · exact a
  · split
    · exact b
    · exact c
theorem jn_cc_pt {n o : Nat} {C : List (ge_R × Int)} {σ0 σ : jw_H} (hK0 : jx_K n o C σ0) (h : jx_fy σ0 σ) {i q : Int} (i0 : 0 ≤ i) (i1 : i < σ0 103 56) : jm_co (jx_pt σ 58 i) q = jm_cc σ0 i q := by
  have hK := jx_K_y h hK0
  have hme := jx_fx_me (jx_fy_x h)
  rw [(jx_I0_c hK.1 i0 (by rw [hme 103 (by omega)]; exact i1)).1, jx_me_ct hme]
  rfl
theorem jn_d_pt {n o : Nat} {C : List (ge_R × Int)} {σ0 σ : jw_H} (hK0 : jx_K n o C σ0) (h : jx_fy σ0 σ) {i : Int} (i0 : 0 ≤ i) (i1 : i < σ0 103 56) : σ 62 i = σ0 135 i := by
  have hK := jx_K_y h hK0
  have hme := jx_fx_me (jx_fy_x h)
  rw [← hme 135 (by omega)]
  exact jx_I0_d hK.1 i0 (by rw [hme 103 (by omega)]; exact i1)
theorem jx_spelt_loop {n : Nat} {σ0 : jw_H} {D : Nat} (hD : 3 ≤ D) {o : Nat} {C : List (ge_R × Int)} (hK0 : jx_K n o C σ0) {i t : Int} (i0 : 0 ≤ i) (i1 : i < σ0 103 56) (t0 : 0 ≤ t) (ht : jw_rg t) : ∀ (f : Nat) {σ : jw_H} {q : Int}, 0 ≤ q → q + f = σ0 103 3 → jx_fy σ0 σ → jn_tl 102 13 16 σ (jn_tx σ0 i q.toNat) → jw_W (js_S n) D md_157 18 [some (.inr (.inr 13)), some (.inl i), some (.inl t), some (.inl q)] [] σ (fun r σ' => ∃ v, r = some (.inl v) ∧ jx_fy σ0 σ' ∧ ((v = -2 ∧ ((jn_tx σ0 i (σ0 103 3).toNat).length : Int) ≤ t) ∨ (jn_tx σ0 i (σ0 103 3).toNat)[t.toNat]? = some v))
  | f, σ, q, q0, hk, hfr, hL => by
    have ih : ∀ {σ' : jw_H}, q < σ0 103 3 → jx_fy σ0 σ' → jn_tl 102 13 16 σ' (jn_tx σ0 i (q + 1).toNat) → jw_W (js_S n) D md_157 18 [some (.inr (.inr 13)), some (.inl i), some (.inl t), some (.inl (q + 1))] [] σ' (fun r σ' => ∃ v, r = some (.inl v) ∧ jx_fy σ0 σ' ∧ ((v = -2 ∧ ((jn_tx σ0 i (σ0 103 3).toNat).length : Int) ≤ t) ∨ (jn_tx σ0 i (σ0 103 3).toNat)[t.toNat]? = some v)) := by
      intro σ' h1 h2 h3
      match f, hk with
      | 0, hk => omega
      | f + 1, hk => exact jx_spelt_loop hD hK0 i0 i1 t0 ht f (by omega) (by omega) h2 h3
    unfold jw_rg at ht
    have hI0 := jx_I0_x hK0.1
    have hp := hI0.2.2.1
    have hq3 := hK0.2.1.1.1.1
    have hcb := hI0.2.2.2.2.2.2.2.2.1
    have hcn := hcb.1
    have hK := jx_K_y hfr hK0
    have hI := jx_I0_x hK.1
    have hme := jx_fx_me (jx_fy_x hfr)
    have e0 : σ o 0 = σ0 103 3 := by rw [hI.2.2.2.2.1, hme 103 (by omega)]
    have hlen := jn_tx_len σ0 i q.toNat
    have hL0 := hL.1
    have hcc := jn_cc_bd hcb (q := q) i0 i1
    have c1 := jm_cw hcb i0 i1
    have c2 : σ0 135 i ≤ 162 := (hcb.2 i i0 i1).2
    have hu := jn_of0 (B := 1458) c1 c2 hcc.1 hcc.2
    have hl := jn_of1 (u := jm_cc σ0 i q) c1 c2
    have hdl0 := jn_dg_len (jm_of (jm_cc σ0 i q) (σ0 135 i) 0)
    refine jw_W_n 2 (i' := 20) (ls' := [some (.inr (.inr 13)), some (.inl i), some (.inl t), some (.inl q)]) (st' := [.inr (.inr 13), .inl q]) rfl ?_
    refine jw_W_gf rfl rfl rfl ?_
    show jw_W (js_S n) _ md_157 21 [some (.inr (.inr 13)), some (.inl i), some (.inl t), some (.inl q)] [.inr (.inr ((σ 13 2).toNat)), .inl q] σ _
    rw [show (σ 13 2).toNat = o from (jx_I0_x (jx_K_y hfr hK0).1).1]
    refine jw_W_gf rfl hp.2.1 rfl ?_
    show jw_W (js_S n) _ md_157 22 [some (.inr (.inr 13)), some (.inl i), some (.inl t), some (.inl q)] [.inl (σ o 0), .inl q] σ _
    refine jw_W_ic rfl (by unfold jw_rg; omega) (by unfold jw_rg; omega) (fun hc1 => ?_) (fun hc1 => ?_)
    · have hc1 : q ≥ (σ o 0) := hc1
      refine jw_W_n 2 (i' := 68) (ls' := [some (.inr (.inr 13)), some (.inl i), some (.inl t), some (.inl q)]) (st' := [.inr (.inr 13), .inl t]) rfl ?_
      refine jw_W_gf rfl rfl rfl ?_
      show jw_W (js_S n) _ md_157 69 [some (.inr (.inr 13)), some (.inl i), some (.inl t), some (.inl q)] [.inl (σ 13 16), .inl t] σ _
      refine jw_W_ic rfl (by unfold jw_rg; omega) (by unfold jw_rg; omega) (fun hc2 => ?_) (fun hc2 => ?_)
      · have hc2 : t ≥ (σ 13 16) := hc2
        refine jw_W_n 1 (i' := 76) (ls' := [some (.inr (.inr 13)), some (.inl i), some (.inl t), some (.inl q)]) (st' := [.inl ((-2))]) rfl ?_
        refine jw_W_ir rfl ?_
        have hkl : q = σ0 103 3 := by omega
        subst hkl
        exact ⟨_, rfl, hfr, .inl ⟨rfl, by omega⟩⟩
      · have hc2 : ¬ (t ≥ (σ 13 16)) := hc2
        refine jw_W_n 1 (i' := 71) (ls' := [some (.inr (.inr 13)), some (.inl i), some (.inl t), some (.inl q)]) (st' := [.inr (.inr 13)]) rfl ?_
        refine jw_W_gf rfl rfl rfl ?_
        show jw_W (js_S n) _ md_157 72 [some (.inr (.inr 13)), some (.inl i), some (.inl t), some (.inl q)] [.inr (.inr 102)] σ _
        refine jw_W_n 1 (i' := 73) (ls' := [some (.inr (.inr 13)), some (.inl i), some (.inl t), some (.inl q)]) (st' := [.inl t, .inr (.inr 102)]) rfl ?_
        refine jw_W_ia rfl rfl (by omega) (by omega) (by omega) ?_
        show jw_W (js_S n) _ md_157 74 [some (.inr (.inr 13)), some (.inl i), some (.inl t), some (.inl q)] [.inl (σ 102 t)] σ _
        refine jw_W_n 1 (i' := 76) (ls' := [some (.inr (.inr 13)), some (.inl i), some (.inl t), some (.inl q)]) (st' := [.inl (σ 102 t)]) rfl ?_
        refine jw_W_ir rfl ?_
        have hkl : q = σ0 103 3 := by omega
        subst hkl
        have hg := List.getElem?_eq_getElem (l := jn_tx σ0 i (σ0 103 3).toNat) (i := t.toNat) (by omega)
        have hx := hL.2 _ _ hg
        rw [Int.toNat_of_nonneg t0] at hx
        exact ⟨_, rfl, hfr, .inr (by rw [hx]; exact hg)⟩
    · have hc1 : ¬ (q ≥ (σ o 0)) := hc1
      refine jw_W_n 1 (i' := 24) (ls' := [some (.inr (.inr 13)), some (.inl i), some (.inl t), some (.inl q)]) (st' := [.inl q]) rfl ?_
      refine jw_W_if rfl (by unfold jw_rg; omega) (fun hc3 => ?_) (fun hc3 => ?_)
      · have hc3 : q ≤ 0 := hc3
        refine jw_W_n 1 (i' := 29) (ls' := [some (.inr (.inr 13)), some (.inl i), some (.inl t), some (.inl q)]) (st' := [.inr (.inr 13)]) rfl ?_
        refine jw_W_gf rfl rfl rfl ?_
        show jw_W (js_S n) _ md_157 30 [some (.inr (.inr 13)), some (.inl i), some (.inl t), some (.inl q)] [.inr (.inr 98)] σ _
        refine jw_W_n 1 (i' := 31) (ls' := [some (.inr (.inr 13)), some (.inl i), some (.inl t), some (.inl q)]) (st' := [.inr (.inr 13), .inr (.inr 98)]) rfl ?_
        refine jw_W_gf rfl rfl rfl ?_
        show jw_W (js_S n) _ md_157 32 [some (.inr (.inr 13)), some (.inl i), some (.inl t), some (.inl q)] [.inr (.inr 57), .inr (.inr 98)] σ _
        refine jw_W_gf rfl rfl rfl ?_
        show jw_W (js_S n) _ md_157 33 [some (.inr (.inr 13)), some (.inl i), some (.inl t), some (.inl q)] [.inr (.inr 58), .inr (.inr 98)] σ _
        refine jw_W_n 2 (i' := 35) (ls' := [some (.inr (.inr 13)), some (.inl i), some (.inl t), some (.inl q)]) (st' := [.inl q, .inl i, .inr (.inr 58), .inr (.inr 98)]) rfl ?_
        refine jw_W_call (as := [.inr (.inr 58), .inl i, .inl q]) (rest := [.inr (.inr 98)]) rfl rfl rfl rfl (Nat.le_of_ble_eq_true rfl) (.inr rfl) (jx_at (jx_pp_58 n) (by omega) (by omega) (by unfold jw_rg; omega)) (by omega) ?_ rfl
        rintro r1 σz ⟨rfl, hs⟩
        rw [hs, show jm_co (jx_pt σ 58 i) q = jm_cc σ0 i q from jn_cc_pt hK0 hfr i0 i1]
        have e62 : σ 62 i = σ0 135 i := jn_d_pt hK0 hfr i0 i1
        show jw_W (js_S n) _ md_157 36 [some (.inr (.inr 13)), some (.inl i), some (.inl t), some (.inl q)] [.inl (jm_cc σ0 i q), .inr (.inr 98)] σ _
        refine jw_W_i2l rfl (by unfold jw_rg; omega) ?_
        refine jw_W_n 1 (i' := 38) (ls' := [some (.inr (.inr 13)), some (.inl i), some (.inl t), some (.inl q)]) (st' := [.inr (.inr 13), .inr (.inl (jm_cc σ0 i q)), .inr (.inr 98)]) rfl ?_
        refine jw_W_gf rfl rfl rfl ?_
        show jw_W (js_S n) _ md_157 39 [some (.inr (.inr 13)), some (.inl i), some (.inl t), some (.inl q)] [.inr (.inr 57), .inr (.inl (jm_cc σ0 i q)), .inr (.inr 98)] σ _
        refine jw_W_gf rfl rfl rfl ?_
        show jw_W (js_S n) _ md_157 40 [some (.inr (.inr 13)), some (.inl i), some (.inl t), some (.inl q)] [.inr (.inr 58), .inr (.inl (jm_cc σ0 i q)), .inr (.inr 98)] σ _
        refine jw_W_gf rfl rfl rfl ?_
        show jw_W (js_S n) _ md_157 41 [some (.inr (.inr 13)), some (.inl i), some (.inl t), some (.inl q)] [.inr (.inr 62), .inr (.inl (jm_cc σ0 i q)), .inr (.inr 98)] σ _
        refine jw_W_n 1 (i' := 42) (ls' := [some (.inr (.inr 13)), some (.inl i), some (.inl t), some (.inl q)]) (st' := [.inl i, .inr (.inr 62), .inr (.inl (jm_cc σ0 i q)), .inr (.inr 98)]) rfl ?_
        refine jw_W_ia rfl rfl (by omega) (by omega) (by omega) ?_
        show jw_W (js_S n) _ md_157 43 [some (.inr (.inr 13)), some (.inl i), some (.inl t), some (.inl q)] [.inl (σ 62 i), .inr (.inl (jm_cc σ0 i q)), .inr (.inr 98)] σ _
        refine jw_W_i2l rfl (by unfold jw_rg; omega) ?_
        refine jw_W_call (as := [.inr (.inr 98), .inr (.inl (jm_cc σ0 i q)), .inr (.inl (σ 62 i))]) (rest := []) rfl rfl rfl rfl (Nat.le_of_ble_eq_true rfl) (.inr rfl) (jx_set (jx_fo_98 n) (by unfold jm_bg; omega) (by unfold jm_bg; omega) (by omega)) (by omega) ?_ rfl
        rintro r1 σ1 ⟨rfl, hs1⟩
        have hfr1 : jx_fy σ0 σ1 := by rw [hs1]; exact jx_fy_fs hfr (by omega)
        have hL1 : jn_tl 102 13 16 σ1 (jn_tx σ0 i q.toNat) := by rw [hs1]; unfold jn_tl; rw [jx_fs_o _ _ (by decide), jx_fs_o _ _ (by decide)]; exact hL
        have e90_1 : σ1 98 0 = jm_of (jm_cc σ0 i q) (σ0 135 i) 0 := by rw [hs1, e62]; exact (jx_fr_of (by omega)).1
        have e98_1 : σ1 98 1 = jm_of (jm_cc σ0 i q) (σ0 135 i) 1 := by rw [hs1, e62]; exact (jx_fr_of (by omega)).2
        show jw_W (js_S n) _ md_157 45 [some (.inr (.inr 13)), some (.inl i), some (.inl t), some (.inl q)] [] σ1 _
        refine jw_W_n 2 (i' := 47) (ls' := [some (.inr (.inr 13)), some (.inl i), some (.inl t), some (.inl q)]) (st' := [.inr (.inr 13), .inr (.inr 13)]) rfl ?_
        refine jw_W_gf rfl rfl rfl ?_
        show jw_W (js_S n) _ md_157 48 [some (.inr (.inr 13)), some (.inl i), some (.inl t), some (.inl q)] [.inr (.inr 98), .inr (.inr 13)] σ1 _
        refine jw_W_gf rfl rfl rfl ?_
        show jw_W (js_S n) _ md_157 49 [some (.inr (.inr 13)), some (.inl i), some (.inl t), some (.inl q)] [.inr (.inl (σ1 98 0)), .inr (.inr 13)] σ1 _
        rw [e90_1]
        refine jw_W_call (as := [.inr (.inr 13), .inr (.inl (jm_of (jm_cc σ0 i q) (σ0 135 i) 0))]) (rest := []) rfl rfl rfl rfl (Nat.le_of_ble_eq_true rfl) (.inr rfl) (jx_writeNumber hL1 (by have hdl := jn_dg_len (jm_of (jm_cc σ0 i q) (σ0 135 i) 0); first | omega | (simp only [List.length_append, List.length_singleton]; omega)) (by omega) (by omega)) (by omega) ?_ rfl
        rintro r1 σ2 ⟨rfl, hf2, hL2⟩
        have hfr2 := jx_fy_tr hfr1 (jn_wf_fy hf2)
        have e98_2 : σ2 98 1 = jm_of (jm_cc σ0 i q) (σ0 135 i) 1 := by rw [hf2.1 98 (by omega) (by omega)]; exact e98_1
        show jw_W (js_S n) _ md_157 50 [some (.inr (.inr 13)), some (.inl i), some (.inl t), some (.inl q)] [] σ2 _
        refine jw_W_n 1 (i' := 51) (ls' := [some (.inr (.inr 13)), some (.inl i), some (.inl t), some (.inl q)]) (st' := [.inr (.inr 13)]) rfl ?_
        refine jw_W_gf rfl rfl rfl ?_
        show jw_W (js_S n) _ md_157 52 [some (.inr (.inr 13)), some (.inl i), some (.inl t), some (.inl q)] [.inr (.inr 98)] σ2 _
        refine jw_W_gf rfl rfl rfl ?_
        show jw_W (js_S n) _ md_157 53 [some (.inr (.inr 13)), some (.inl i), some (.inl t), some (.inl q)] [.inr (.inl (σ2 98 1))] σ2 _
        rw [e98_2]
        refine jw_W_n 1 (i' := 54) (ls' := [some (.inr (.inr 13)), some (.inl i), some (.inl t), some (.inl q)]) (st' := [.inr (.inl 1), .inr (.inl (jm_of (jm_cc σ0 i q) (σ0 135 i) 1))]) rfl ?_
        refine jw_W_lc rfl rfl (by unfold jw_rgl; omega) (by unfold jw_rgl; omega) (fun hc4 => ?_) (fun hc4 => ?_)
        · have hc4 : (jm_of (jm_cc σ0 i q) (σ0 135 i) 1) = 1 := hc4
          refine jw_W_n 2 (i' := 18) (ls' := [some (.inr (.inr 13)), some (.inl i), some (.inl t), some (.inl (q + 1))]) (st' := []) rfl ?_
          refine ih (by omega) hfr2 ?_
          have etx : jn_tx σ0 i (q + 1).toNat = (jn_tx σ0 i q.toNat ++ jn_dg (jm_of (jm_cc σ0 i q) (σ0 135 i) 0)) := by
            rw [jn_tx_s q0, if_pos (by omega)]
            unfold jn_fx
            rw [if_pos (by omega)]
            simp only [List.append_assoc, List.cons_append, List.nil_append, List.append_nil]
          rw [etx]
          exact hL2
        · have hc4 : ¬ ((jm_of (jm_cc σ0 i q) (σ0 135 i) 1) = 1) := hc4
          refine jw_W_n 2 (i' := 58) (ls' := [some (.inr (.inr 13)), some (.inl i), some (.inl t), some (.inl q)]) (st' := [.inl 47, .inr (.inr 13)]) rfl ?_
          refine jw_W_call (as := [.inr (.inr 13), .inl 47]) (rest := []) rfl rfl rfl rfl (Nat.le_of_ble_eq_true rfl) (.inr rfl) (jx_write hL2 (by first | omega | (simp only [List.length_append, List.length_singleton]; omega))) (by omega) ?_ rfl
          rintro r1 σ3 ⟨rfl, hf3, hL3⟩
          have hfr3 := jx_fy_tr hfr2 (jn_wf_fy hf3)
          have e98_3 : σ3 98 1 = jm_of (jm_cc σ0 i q) (σ0 135 i) 1 := by rw [hf3.1 98 (by omega) (by omega)]; exact e98_2
          show jw_W (js_S n) _ md_157 59 [some (.inr (.inr 13)), some (.inl i), some (.inl t), some (.inl q)] [] σ3 _
          refine jw_W_n 2 (i' := 61) (ls' := [some (.inr (.inr 13)), some (.inl i), some (.inl t), some (.inl q)]) (st' := [.inr (.inr 13), .inr (.inr 13)]) rfl ?_
          refine jw_W_gf rfl rfl rfl ?_
          show jw_W (js_S n) _ md_157 62 [some (.inr (.inr 13)), some (.inl i), some (.inl t), some (.inl q)] [.inr (.inr 98), .inr (.inr 13)] σ3 _
          refine jw_W_gf rfl rfl rfl ?_
          show jw_W (js_S n) _ md_157 63 [some (.inr (.inr 13)), some (.inl i), some (.inl t), some (.inl q)] [.inr (.inl (σ3 98 1)), .inr (.inr 13)] σ3 _
          rw [e98_3]
          refine jw_W_call (as := [.inr (.inr 13), .inr (.inl (jm_of (jm_cc σ0 i q) (σ0 135 i) 1))]) (rest := []) rfl rfl rfl rfl (Nat.le_of_ble_eq_true rfl) (.inr rfl) (jx_writeNumber hL3 (by have hdl := jn_dg_len (jm_of (jm_cc σ0 i q) (σ0 135 i) 0); first | omega | (simp only [List.length_append, List.length_singleton]; omega)) (by omega) (by omega)) (by omega) ?_ rfl
          rintro r1 σ4 ⟨rfl, hf4, hL4⟩
          have hfr4 := jx_fy_tr hfr3 (jn_wf_fy hf4)
          have e98_4 : σ4 98 1 = jm_of (jm_cc σ0 i q) (σ0 135 i) 1 := by rw [hf4.1 98 (by omega) (by omega)]; exact e98_3
          show jw_W (js_S n) _ md_157 64 [some (.inr (.inr 13)), some (.inl i), some (.inl t), some (.inl q)] [] σ4 _
          refine jw_W_n 2 (i' := 18) (ls' := [some (.inr (.inr 13)), some (.inl i), some (.inl t), some (.inl (q + 1))]) (st' := []) rfl ?_
          refine ih (by omega) hfr4 ?_
          have etx : jn_tx σ0 i (q + 1).toNat = (((jn_tx σ0 i q.toNat ++ jn_dg (jm_of (jm_cc σ0 i q) (σ0 135 i) 0)) ++ [47]) ++ jn_dg (jm_of (jm_cc σ0 i q) (σ0 135 i) 1)) := by
            rw [jn_tx_s q0, if_pos (by omega)]
            unfold jn_fx
            rw [if_neg (by omega)]
            simp only [List.append_assoc, List.cons_append, List.nil_append, List.append_nil]
          rw [etx]
          exact hL4
      · have hc3 : ¬ (q ≤ 0) := hc3
        refine jw_W_n 2 (i' := 27) (ls' := [some (.inr (.inr 13)), some (.inl i), some (.inl t), some (.inl q)]) (st' := [.inl 44, .inr (.inr 13)]) rfl ?_
        refine jw_W_call (as := [.inr (.inr 13), .inl 44]) (rest := []) rfl rfl rfl rfl (Nat.le_of_ble_eq_true rfl) (.inr rfl) (jx_write hL (by first | omega | (simp only [List.length_append, List.length_singleton]; omega))) (by omega) ?_ rfl
        rintro r1 σ5 ⟨rfl, hf5, hL5⟩
        have hfr5 := jx_fy_tr hfr (jn_wf_fy hf5)
        show jw_W (js_S n) _ md_157 28 [some (.inr (.inr 13)), some (.inl i), some (.inl t), some (.inl q)] [] σ5 _
        refine jw_W_n 1 (i' := 29) (ls' := [some (.inr (.inr 13)), some (.inl i), some (.inl t), some (.inl q)]) (st' := [.inr (.inr 13)]) rfl ?_
        refine jw_W_gf rfl rfl rfl ?_
        show jw_W (js_S n) _ md_157 30 [some (.inr (.inr 13)), some (.inl i), some (.inl t), some (.inl q)] [.inr (.inr 98)] σ5 _
        refine jw_W_n 1 (i' := 31) (ls' := [some (.inr (.inr 13)), some (.inl i), some (.inl t), some (.inl q)]) (st' := [.inr (.inr 13), .inr (.inr 98)]) rfl ?_
        refine jw_W_gf rfl rfl rfl ?_
        show jw_W (js_S n) _ md_157 32 [some (.inr (.inr 13)), some (.inl i), some (.inl t), some (.inl q)] [.inr (.inr 57), .inr (.inr 98)] σ5 _
        refine jw_W_gf rfl rfl rfl ?_
        show jw_W (js_S n) _ md_157 33 [some (.inr (.inr 13)), some (.inl i), some (.inl t), some (.inl q)] [.inr (.inr 58), .inr (.inr 98)] σ5 _
        refine jw_W_n 2 (i' := 35) (ls' := [some (.inr (.inr 13)), some (.inl i), some (.inl t), some (.inl q)]) (st' := [.inl q, .inl i, .inr (.inr 58), .inr (.inr 98)]) rfl ?_
        refine jw_W_call (as := [.inr (.inr 58), .inl i, .inl q]) (rest := [.inr (.inr 98)]) rfl rfl rfl rfl (Nat.le_of_ble_eq_true rfl) (.inr rfl) (jx_at (jx_pp_58 n) (by omega) (by omega) (by unfold jw_rg; omega)) (by omega) ?_ rfl
        rintro r1 σz ⟨rfl, hs⟩
        rw [hs, show jm_co (jx_pt σ5 58 i) q = jm_cc σ0 i q from jn_cc_pt hK0 hfr5 i0 i1]
        have e62 : σ5 62 i = σ0 135 i := jn_d_pt hK0 hfr5 i0 i1
        show jw_W (js_S n) _ md_157 36 [some (.inr (.inr 13)), some (.inl i), some (.inl t), some (.inl q)] [.inl (jm_cc σ0 i q), .inr (.inr 98)] σ5 _
        refine jw_W_i2l rfl (by unfold jw_rg; omega) ?_
        refine jw_W_n 1 (i' := 38) (ls' := [some (.inr (.inr 13)), some (.inl i), some (.inl t), some (.inl q)]) (st' := [.inr (.inr 13), .inr (.inl (jm_cc σ0 i q)), .inr (.inr 98)]) rfl ?_
        refine jw_W_gf rfl rfl rfl ?_
        show jw_W (js_S n) _ md_157 39 [some (.inr (.inr 13)), some (.inl i), some (.inl t), some (.inl q)] [.inr (.inr 57), .inr (.inl (jm_cc σ0 i q)), .inr (.inr 98)] σ5 _
        refine jw_W_gf rfl rfl rfl ?_
        show jw_W (js_S n) _ md_157 40 [some (.inr (.inr 13)), some (.inl i), some (.inl t), some (.inl q)] [.inr (.inr 58), .inr (.inl (jm_cc σ0 i q)), .inr (.inr 98)] σ5 _
        refine jw_W_gf rfl rfl rfl ?_
        show jw_W (js_S n) _ md_157 41 [some (.inr (.inr 13)), some (.inl i), some (.inl t), some (.inl q)] [.inr (.inr 62), .inr (.inl (jm_cc σ0 i q)), .inr (.inr 98)] σ5 _
        refine jw_W_n 1 (i' := 42) (ls' := [some (.inr (.inr 13)), some (.inl i), some (.inl t), some (.inl q)]) (st' := [.inl i, .inr (.inr 62), .inr (.inl (jm_cc σ0 i q)), .inr (.inr 98)]) rfl ?_
        refine jw_W_ia rfl rfl (by omega) (by omega) (by omega) ?_
        show jw_W (js_S n) _ md_157 43 [some (.inr (.inr 13)), some (.inl i), some (.inl t), some (.inl q)] [.inl (σ5 62 i), .inr (.inl (jm_cc σ0 i q)), .inr (.inr 98)] σ5 _
        refine jw_W_i2l rfl (by unfold jw_rg; omega) ?_
        refine jw_W_call (as := [.inr (.inr 98), .inr (.inl (jm_cc σ0 i q)), .inr (.inl (σ5 62 i))]) (rest := []) rfl rfl rfl rfl (Nat.le_of_ble_eq_true rfl) (.inr rfl) (jx_set (jx_fo_98 n) (by unfold jm_bg; omega) (by unfold jm_bg; omega) (by omega)) (by omega) ?_ rfl
        rintro r1 σ6 ⟨rfl, hs6⟩
        have hfr6 : jx_fy σ0 σ6 := by rw [hs6]; exact jx_fy_fs hfr5 (by omega)
        have hL6 : jn_tl 102 13 16 σ6 (jn_tx σ0 i q.toNat ++ [44]) := by rw [hs6]; unfold jn_tl; rw [jx_fs_o _ _ (by decide), jx_fs_o _ _ (by decide)]; exact hL5
        have e90_6 : σ6 98 0 = jm_of (jm_cc σ0 i q) (σ0 135 i) 0 := by rw [hs6, e62]; exact (jx_fr_of (by omega)).1
        have e98_6 : σ6 98 1 = jm_of (jm_cc σ0 i q) (σ0 135 i) 1 := by rw [hs6, e62]; exact (jx_fr_of (by omega)).2
        show jw_W (js_S n) _ md_157 45 [some (.inr (.inr 13)), some (.inl i), some (.inl t), some (.inl q)] [] σ6 _
        refine jw_W_n 2 (i' := 47) (ls' := [some (.inr (.inr 13)), some (.inl i), some (.inl t), some (.inl q)]) (st' := [.inr (.inr 13), .inr (.inr 13)]) rfl ?_
        refine jw_W_gf rfl rfl rfl ?_
        show jw_W (js_S n) _ md_157 48 [some (.inr (.inr 13)), some (.inl i), some (.inl t), some (.inl q)] [.inr (.inr 98), .inr (.inr 13)] σ6 _
        refine jw_W_gf rfl rfl rfl ?_
        show jw_W (js_S n) _ md_157 49 [some (.inr (.inr 13)), some (.inl i), some (.inl t), some (.inl q)] [.inr (.inl (σ6 98 0)), .inr (.inr 13)] σ6 _
        rw [e90_6]
        refine jw_W_call (as := [.inr (.inr 13), .inr (.inl (jm_of (jm_cc σ0 i q) (σ0 135 i) 0))]) (rest := []) rfl rfl rfl rfl (Nat.le_of_ble_eq_true rfl) (.inr rfl) (jx_writeNumber hL6 (by have hdl := jn_dg_len (jm_of (jm_cc σ0 i q) (σ0 135 i) 0); first | omega | (simp only [List.length_append, List.length_singleton]; omega)) (by omega) (by omega)) (by omega) ?_ rfl
        rintro r1 σ7 ⟨rfl, hf7, hL7⟩
        have hfr7 := jx_fy_tr hfr6 (jn_wf_fy hf7)
        have e98_7 : σ7 98 1 = jm_of (jm_cc σ0 i q) (σ0 135 i) 1 := by rw [hf7.1 98 (by omega) (by omega)]; exact e98_6
        show jw_W (js_S n) _ md_157 50 [some (.inr (.inr 13)), some (.inl i), some (.inl t), some (.inl q)] [] σ7 _
        refine jw_W_n 1 (i' := 51) (ls' := [some (.inr (.inr 13)), some (.inl i), some (.inl t), some (.inl q)]) (st' := [.inr (.inr 13)]) rfl ?_
        refine jw_W_gf rfl rfl rfl ?_
        show jw_W (js_S n) _ md_157 52 [some (.inr (.inr 13)), some (.inl i), some (.inl t), some (.inl q)] [.inr (.inr 98)] σ7 _
        refine jw_W_gf rfl rfl rfl ?_
        show jw_W (js_S n) _ md_157 53 [some (.inr (.inr 13)), some (.inl i), some (.inl t), some (.inl q)] [.inr (.inl (σ7 98 1))] σ7 _
        rw [e98_7]
        refine jw_W_n 1 (i' := 54) (ls' := [some (.inr (.inr 13)), some (.inl i), some (.inl t), some (.inl q)]) (st' := [.inr (.inl 1), .inr (.inl (jm_of (jm_cc σ0 i q) (σ0 135 i) 1))]) rfl ?_
        refine jw_W_lc rfl rfl (by unfold jw_rgl; omega) (by unfold jw_rgl; omega) (fun hc5 => ?_) (fun hc5 => ?_)
        · have hc5 : (jm_of (jm_cc σ0 i q) (σ0 135 i) 1) = 1 := hc5
          refine jw_W_n 2 (i' := 18) (ls' := [some (.inr (.inr 13)), some (.inl i), some (.inl t), some (.inl (q + 1))]) (st' := []) rfl ?_
          refine ih (by omega) hfr7 ?_
          have etx : jn_tx σ0 i (q + 1).toNat = ((jn_tx σ0 i q.toNat ++ [44]) ++ jn_dg (jm_of (jm_cc σ0 i q) (σ0 135 i) 0)) := by
            rw [jn_tx_s q0, if_neg (by omega)]
            unfold jn_fx
            rw [if_pos (by omega)]
            simp only [List.append_assoc, List.cons_append, List.nil_append, List.append_nil]
          rw [etx]
          exact hL7
        · have hc5 : ¬ ((jm_of (jm_cc σ0 i q) (σ0 135 i) 1) = 1) := hc5
          refine jw_W_n 2 (i' := 58) (ls' := [some (.inr (.inr 13)), some (.inl i), some (.inl t), some (.inl q)]) (st' := [.inl 47, .inr (.inr 13)]) rfl ?_
          refine jw_W_call (as := [.inr (.inr 13), .inl 47]) (rest := []) rfl rfl rfl rfl (Nat.le_of_ble_eq_true rfl) (.inr rfl) (jx_write hL7 (by first | omega | (simp only [List.length_append, List.length_singleton]; omega))) (by omega) ?_ rfl
          rintro r1 σ8 ⟨rfl, hf8, hL8⟩
          have hfr8 := jx_fy_tr hfr7 (jn_wf_fy hf8)
          have e98_8 : σ8 98 1 = jm_of (jm_cc σ0 i q) (σ0 135 i) 1 := by rw [hf8.1 98 (by omega) (by omega)]; exact e98_7
          show jw_W (js_S n) _ md_157 59 [some (.inr (.inr 13)), some (.inl i), some (.inl t), some (.inl q)] [] σ8 _
          refine jw_W_n 2 (i' := 61) (ls' := [some (.inr (.inr 13)), some (.inl i), some (.inl t), some (.inl q)]) (st' := [.inr (.inr 13), .inr (.inr 13)]) rfl ?_
          refine jw_W_gf rfl rfl rfl ?_
          show jw_W (js_S n) _ md_157 62 [some (.inr (.inr 13)), some (.inl i), some (.inl t), some (.inl q)] [.inr (.inr 98), .inr (.inr 13)] σ8 _
          refine jw_W_gf rfl rfl rfl ?_
          show jw_W (js_S n) _ md_157 63 [some (.inr (.inr 13)), some (.inl i), some (.inl t), some (.inl q)] [.inr (.inl (σ8 98 1)), .inr (.inr 13)] σ8 _
          rw [e98_8]
          refine jw_W_call (as := [.inr (.inr 13), .inr (.inl (jm_of (jm_cc σ0 i q) (σ0 135 i) 1))]) (rest := []) rfl rfl rfl rfl (Nat.le_of_ble_eq_true rfl) (.inr rfl) (jx_writeNumber hL8 (by have hdl := jn_dg_len (jm_of (jm_cc σ0 i q) (σ0 135 i) 0); first | omega | (simp only [List.length_append, List.length_singleton]; omega)) (by omega) (by omega)) (by omega) ?_ rfl
          rintro r1 σ9 ⟨rfl, hf9, hL9⟩
          have hfr9 := jx_fy_tr hfr8 (jn_wf_fy hf9)
          have e98_9 : σ9 98 1 = jm_of (jm_cc σ0 i q) (σ0 135 i) 1 := by rw [hf9.1 98 (by omega) (by omega)]; exact e98_8
          show jw_W (js_S n) _ md_157 64 [some (.inr (.inr 13)), some (.inl i), some (.inl t), some (.inl q)] [] σ9 _
          refine jw_W_n 2 (i' := 18) (ls' := [some (.inr (.inr 13)), some (.inl i), some (.inl t), some (.inl (q + 1))]) (st' := []) rfl ?_
          refine ih (by omega) hfr9 ?_
          have etx : jn_tx σ0 i (q + 1).toNat = ((((jn_tx σ0 i q.toNat ++ [44]) ++ jn_dg (jm_of (jm_cc σ0 i q) (σ0 135 i) 0)) ++ [47]) ++ jn_dg (jm_of (jm_cc σ0 i q) (σ0 135 i) 1)) := by
            rw [jn_tx_s q0, if_neg (by omega)]
            unfold jn_fx
            rw [if_neg (by omega)]
            simp only [List.append_assoc, List.cons_append, List.nil_append, List.append_nil]
          rw [etx]
          exact hL9
theorem jx_spelt {n : Nat} {σ : jw_H} {o : Nat} {C : List (ge_R × Int)} (hK : jx_K n o C σ) {i t : Int} (hi : jw_rg i) (ht : jw_rg t) : jw_T (js_S n) 5 157 [.inr (.inr 13), .inl i, .inl t] σ (fun r σ' => ∃ v, r = some (.inl v) ∧ jx_fy σ σ' ∧ jn_spa σ i t v) := by
  refine jw_T_of (D := 4) (M := mm_157) rfl (Nat.le_of_ble_eq_true rfl) (ls0 := [some (.inr (.inr 13)), some (.inl i), some (.inl t), none]) rfl ?_ (by rintro _ _ ⟨_, rfl, -⟩; rfl)
  have hI := hK.1
  obtain ⟨hto, hfo, hp, hP, e0, e1, e2, hPm, hcb, c0, p0, -⟩ := jx_I0_x hI
  have ho := hp.1
  have hq := hP.1
  have hw := hP.2.1
  have hq2 := hP.2.2.1
  have hcn := hcb.1
  have rhi := hi
  unfold jw_rg at rhi
  have rht := ht
  unfold jw_rg at rht
  refine jw_W_n 1 (i' := 1) (ls' := [some (.inr (.inr 13)), some (.inl i), some (.inl t), none]) (st' := [.inl i]) rfl ?_
  refine jw_W_if rfl (by unfold jw_rg; omega) (fun hc1 => ?_) (fun hc1 => ?_)
  · have hc1 : i < 0 := hc1
    refine jw_W_n 1 (i' := 5) (ls' := [some (.inr (.inr 13)), some (.inl i), some (.inl t), none]) (st' := [.inl ((-1))]) rfl ?_
    refine jw_W_ir rfl ?_
    exact ⟨_, rfl, jx_fy_rf σ, .inl ⟨rfl, by omega⟩⟩
  · have hc1 : ¬ (i < 0) := hc1
    refine jw_W_n 1 (i' := 3) (ls' := [some (.inr (.inr 13)), some (.inl i), some (.inl t), none]) (st' := [.inl t]) rfl ?_
    refine jw_W_if rfl (by unfold jw_rg; omega) (fun hc2 => ?_) (fun hc2 => ?_)
    · have hc2 : t ≥ 0 := hc2
      refine jw_W_n 2 (i' := 8) (ls' := [some (.inr (.inr 13)), some (.inl i), some (.inl t), none]) (st' := [.inr (.inr 13), .inl i]) rfl ?_
      refine jw_W_gf rfl rfl rfl ?_
      show jw_W (js_S n) _ md_157 9 [some (.inr (.inr 13)), some (.inl i), some (.inl t), none] [.inr (.inr 57), .inl i] σ _
      refine jw_W_gf rfl rfl rfl ?_
      show jw_W (js_S n) _ md_157 10 [some (.inr (.inr 13)), some (.inl i), some (.inl t), none] [.inl (σ 57 0), .inl i] σ _
      refine jw_W_ic rfl (by unfold jw_rg; omega) (by unfold jw_rg; omega) (fun hc3 => ?_) (fun hc3 => ?_)
      · have hc3 : i < (σ 57 0) := hc3
        refine jw_W_n 2 (i' := 15) (ls' := [some (.inr (.inr 13)), some (.inl i), some (.inl t), none]) (st' := [.inl 0, .inr (.inr 13)]) rfl ?_
        refine jw_W_pf (a := 0) rfl (by omega) rfl rfl rfl rfl rfl ?_
        refine jw_W_n 2 (i' := 18) (ls' := [some (.inr (.inr 13)), some (.inl i), some (.inl t), some (.inl 0)]) (st' := []) rfl ?_
        refine jw_W_mono (jx_spelt_loop (D := 4) (by omega) hK (by omega) (by omega) (by omega) ht (σ 103 3).toNat (q := 0) (by omega) (by omega) (jx_fy_up (jx_fy_rf σ) (by omega)) ⟨jw_up_eq _ _ _ _, fun k x hx => by cases hx⟩) ?_
        rintro r σ' ⟨v, rfl, hf, hv⟩
        exact ⟨_, rfl, hf, .inr ⟨by omega, .inr ⟨by omega, hv⟩⟩⟩
      · have hc3 : ¬ (i < (σ 57 0)) := hc3
        refine jw_W_n 1 (i' := 12) (ls' := [some (.inr (.inr 13)), some (.inl i), some (.inl t), none]) (st' := [.inl ((-4))]) rfl ?_
        refine jw_W_ir rfl ?_
        exact ⟨_, rfl, jx_fy_rf σ, .inr ⟨by omega, .inl ⟨rfl, by omega⟩⟩⟩
    · have hc2 : ¬ (t ≥ 0) := hc2
      refine jw_W_n 1 (i' := 5) (ls' := [some (.inr (.inr 13)), some (.inl i), some (.inl t), none]) (st' := [.inl ((-1))]) rfl ?_
      refine jw_W_ir rfl ?_
      exact ⟨_, rfl, jx_fy_rf σ, .inl ⟨rfl, by omega⟩⟩
theorem jn_wg_cbd {σ σ' : jw_H} (h : jn_wg σ σ') (hcb : jm_cbd σ) : jm_cbd σ' := by
  unfold jm_cbd jm_ct at *
  rw [h.2 56 (by omega), h.1 132 (by omega) (by omega), h.1 133 (by omega) (by omega), h.1 134 (by omega) (by omega), h.1 135 (by omega) (by omega)]
  exact hcb
theorem jn_wg_cc {σ σ' : jw_H} (h : jn_wg σ σ') (i q : Int) : jm_cc σ' i q = jm_cc σ i q := by
  unfold jm_cc
  rw [h.1 132 (by omega) (by omega), h.1 133 (by omega) (by omega), h.1 134 (by omega) (by omega)]
theorem jn_wg_fz {σ σ' : jw_H} {C : List (ge_R × Int)} (hKN : jm_KN σ C) (h : jn_wg σ σ') : jm_fz σ σ' := by
  refine ⟨fun o h1 h2 => h.1 o h2 (by omega), fun j hj => h.2 j (by omega), ?_⟩
  have hN := hKN.1.2.2.2.2.1
  unfold jm_Ns at *
  rw [h.1 131 (by omega) (by omega)]
  exact hN
theorem jm_tellsFraction {n : Nat} {σ : jw_H} {L : List Int} {i q : Int} (hcb : jm_cbd σ) (i0 : 0 ≤ i) (i1 : i < σ 103 56) (q0 : 0 ≤ q) (q3 : q < 3) (hL : jn_tl 143 103 73 σ L) (hll : L.length + 9 ≤ 64) : jw_T (js_S n) 3 329 [.inr (.inr 103), .inl i, .inl q] σ (fun r σ' => r = none ∧ jn_wg σ σ' ∧ jn_tl 143 103 73 σ' (L ++ jn_fx (jm_of (jm_cc σ i q) (σ 135 i) 0) (jm_of (jm_cc σ i q) (σ 135 i) 1))) := by
  refine jw_T_of (D := 2) (M := mm_329) rfl (Nat.le_of_ble_eq_true rfl) (ls0 := [some (.inr (.inr 103)), some (.inl i), some (.inl q), none, none]) rfl ?_ (by rintro _ _ ⟨rfl, -⟩; rfl)
  have hcn := hcb.1
  have hcc := jn_cc_bd hcb (q := q) i0 i1
  have c1 := jm_cw hcb i0 i1
  have c2 : σ 135 i ≤ 162 := (hcb.2 i i0 i1).2
  have hu := jn_of0 (B := 1458) c1 c2 hcc.1 hcc.2
  have hl := jn_of1 (u := jm_cc σ i q) c1 c2
  refine jw_W_n 4 (i' := 4) (ls' := [some (.inr (.inr 103)), some (.inl i), some (.inl q), none, none]) (st' := [.inl q, .inl i, .inr (.inr 103), .inr (.inr 103)]) rfl ?_
  refine jw_W_call (as := [.inr (.inr 103), .inl i, .inl q]) (rest := [.inr (.inr 103)]) rfl rfl rfl rfl (Nat.le_of_ble_eq_true rfl) (.inr rfl) (jm_cornerAt hcb i0 (by exact i1) (by unfold jw_rg; omega)) (by omega) ?_ rfl
  rintro r1 σz ⟨rfl, hs⟩
  rw [hs]
  show jw_W (js_S n) _ md_329 5 [some (.inr (.inr 103)), some (.inl i), some (.inl q), none, none] [.inr (.inl (jm_cc σ i q)), .inr (.inr 103)] σ _
  refine jw_W_n 1 (i' := 6) (ls' := [some (.inr (.inr 103)), some (.inl i), some (.inl q), none, none]) (st' := [.inr (.inr 103), .inr (.inl (jm_cc σ i q)), .inr (.inr 103)]) rfl ?_
  refine jw_W_gf rfl rfl rfl ?_
  show jw_W (js_S n) _ md_329 7 [some (.inr (.inr 103)), some (.inl i), some (.inl q), none, none] [.inr (.inr 135), .inr (.inl (jm_cc σ i q)), .inr (.inr 103)] σ _
  refine jw_W_n 1 (i' := 8) (ls' := [some (.inr (.inr 103)), some (.inl i), some (.inl q), none, none]) (st' := [.inl i, .inr (.inr 135), .inr (.inl (jm_cc σ i q)), .inr (.inr 103)]) rfl ?_
  refine jw_W_la rfl rfl (by omega) (by omega) (by omega) ?_
  show jw_W (js_S n) _ md_329 9 [some (.inr (.inr 103)), some (.inl i), some (.inl q), none, none] [.inr (.inl (σ 135 i)), .inr (.inl (jm_cc σ i q)), .inr (.inr 103)] σ _
  refine jw_W_n 1 (i' := 10) (ls' := [some (.inr (.inr 103)), some (.inl i), some (.inl q), none, none]) (st' := [.inl 0, .inr (.inl (σ 135 i)), .inr (.inl (jm_cc σ i q)), .inr (.inr 103)]) rfl ?_
  refine jw_W_call (as := [.inr (.inl (jm_cc σ i q)), .inr (.inl (σ 135 i)), .inl 0]) (rest := [.inr (.inr 103)]) rfl rfl rfl rfl (Nat.le_of_ble_eq_true rfl) (.inl rfl) (jm_ofFr (by unfold jm_bg; omega) (by omega) (by omega) (by unfold jw_rg; omega)) (by omega) ?_ rfl
  rintro r1 σz ⟨rfl, hs⟩
  rw [hs]
  show jw_W (js_S n) _ md_329 11 [some (.inr (.inr 103)), some (.inl i), some (.inl q), none, none] [.inr (.inl (jm_of (jm_cc σ i q) (σ 135 i) 0)), .inr (.inr 103)] σ _
  refine jw_W_call (as := [.inr (.inr 103), .inr (.inl (jm_of (jm_cc σ i q) (σ 135 i) 0))]) (rest := []) rfl rfl rfl rfl (Nat.le_of_ble_eq_true rfl) (.inr rfl) (jm_tellsNumber hL (by have hdl := jn_dg_len (jm_of (jm_cc σ i q) (σ 135 i) 0); first | omega | (simp only [List.length_append, List.length_singleton]; omega)) (by omega) (by omega)) (by omega) ?_ rfl
  rintro r1 σ1 ⟨rfl, hf1, hL1⟩
  have hfr1 := hf1
  show jw_W (js_S n) _ md_329 12 [some (.inr (.inr 103)), some (.inl i), some (.inl q), none, none] [] σ1 _
  refine jw_W_n 3 (i' := 15) (ls' := [some (.inr (.inr 103)), some (.inl i), some (.inl q), none, none]) (st' := [.inl q, .inl i, .inr (.inr 103)]) rfl ?_
  refine jw_W_call (as := [.inr (.inr 103), .inl i, .inl q]) (rest := []) rfl rfl rfl rfl (Nat.le_of_ble_eq_true rfl) (.inr rfl) (jm_cornerAt (jn_wg_cbd hfr1 hcb) i0 (by rw [hfr1.2 56 (by omega)]; exact i1) (by unfold jw_rg; omega)) (by omega) ?_ rfl
  rintro r1 σz ⟨rfl, hs⟩
  rw [hs, jn_wg_cc hfr1]
  show jw_W (js_S n) _ md_329 16 [some (.inr (.inr 103)), some (.inl i), some (.inl q), none, none] [.inr (.inl (jm_cc σ i q))] σ1 _
  refine jw_W_n 1 (i' := 17) (ls' := [some (.inr (.inr 103)), some (.inl i), some (.inl q), none, none]) (st' := [.inr (.inr 103), .inr (.inl (jm_cc σ i q))]) rfl ?_
  refine jw_W_gf rfl rfl rfl ?_
  show jw_W (js_S n) _ md_329 18 [some (.inr (.inr 103)), some (.inl i), some (.inl q), none, none] [.inr (.inr 135), .inr (.inl (jm_cc σ i q))] σ1 _
  refine jw_W_n 1 (i' := 19) (ls' := [some (.inr (.inr 103)), some (.inl i), some (.inl q), none, none]) (st' := [.inl i, .inr (.inr 135), .inr (.inl (jm_cc σ i q))]) rfl ?_
  refine jw_W_la rfl rfl (by omega) (by omega) (by omega) ?_
  show jw_W (js_S n) _ md_329 20 [some (.inr (.inr 103)), some (.inl i), some (.inl q), none, none] [.inr (.inl (σ1 135 i)), .inr (.inl (jm_cc σ i q))] σ1 _
  rw [hfr1.1 135 (by omega) (by omega)]
  refine jw_W_n 1 (i' := 21) (ls' := [some (.inr (.inr 103)), some (.inl i), some (.inl q), none, none]) (st' := [.inl 1, .inr (.inl (σ 135 i)), .inr (.inl (jm_cc σ i q))]) rfl ?_
  refine jw_W_call (as := [.inr (.inl (jm_cc σ i q)), .inr (.inl (σ 135 i)), .inl 1]) (rest := []) rfl rfl rfl rfl (Nat.le_of_ble_eq_true rfl) (.inl rfl) (jm_ofFr (by unfold jm_bg; omega) (by omega) (by omega) (by unfold jw_rg; omega)) (by omega) ?_ rfl
  rintro r1 σz ⟨rfl, hs⟩
  rw [hs]
  show jw_W (js_S n) _ md_329 22 [some (.inr (.inr 103)), some (.inl i), some (.inl q), none, none] [.inr (.inl (jm_of (jm_cc σ i q) (σ 135 i) 1))] σ1 _
  refine jw_W_n 3 (i' := 25) (ls' := [some (.inr (.inr 103)), some (.inl i), some (.inl q), some (.inr (.inl (jm_of (jm_cc σ i q) (σ 135 i) 1))), none]) (st' := [.inr (.inl 1), .inr (.inl (jm_of (jm_cc σ i q) (σ 135 i) 1))]) rfl ?_
  refine jw_W_lc rfl rfl (by unfold jw_rgl; omega) (by unfold jw_rgl; omega) (fun hc1 => ?_) (fun hc1 => ?_)
  · have hc1 : (jm_of (jm_cc σ i q) (σ 135 i) 1) ≤ 1 := hc1
    refine jw_W_re rfl ?_
    have etx : L ++ jn_fx (jm_of (jm_cc σ i q) (σ 135 i) 0) (jm_of (jm_cc σ i q) (σ 135 i) 1) = (L ++ jn_dg (jm_of (jm_cc σ i q) (σ 135 i) 0)) := by
      unfold jn_fx
      rw [if_pos (by omega)]
      simp only [List.append_assoc, List.cons_append, List.nil_append, List.append_nil]
    rw [etx]
    exact ⟨rfl, hfr1, hL1⟩
  · have hc1 : ¬ ((jm_of (jm_cc σ i q) (σ 135 i) 1) ≤ 1) := hc1
    refine jw_W_n 2 (i' := 29) (ls' := [some (.inr (.inr 103)), some (.inl i), some (.inl q), some (.inr (.inl (jm_of (jm_cc σ i q) (σ 135 i) 1))), none]) (st' := [.inl 47, .inr (.inr 103)]) rfl ?_
    refine jw_W_call (as := [.inr (.inr 103), .inl 47]) (rest := []) rfl rfl rfl rfl (Nat.le_of_ble_eq_true rfl) (.inr rfl) (jm_tells hL1 (by have hdl := jn_dg_len (jm_of (jm_cc σ i q) (σ 135 i) 0); first | omega | (simp only [List.length_append, List.length_singleton]; omega))) (by omega) ?_ rfl
    rintro r1 σ2 ⟨rfl, hf2, hL2⟩
    have hfr2 := jn_wg_tr hfr1 hf2
    show jw_W (js_S n) _ md_329 30 [some (.inr (.inr 103)), some (.inl i), some (.inl q), some (.inr (.inl (jm_of (jm_cc σ i q) (σ 135 i) 1))), none] [] σ2 _
    refine jw_W_n 2 (i' := 32) (ls' := [some (.inr (.inr 103)), some (.inl i), some (.inl q), some (.inr (.inl (jm_of (jm_cc σ i q) (σ 135 i) 1))), none]) (st' := [.inr (.inl (jm_of (jm_cc σ i q) (σ 135 i) 1)), .inr (.inr 103)]) rfl ?_
    refine jw_W_call (as := [.inr (.inr 103), .inr (.inl (jm_of (jm_cc σ i q) (σ 135 i) 1))]) (rest := []) rfl rfl rfl rfl (Nat.le_of_ble_eq_true rfl) (.inr rfl) (jm_tellsNumber hL2 (by have hdl := jn_dg_len (jm_of (jm_cc σ i q) (σ 135 i) 0); first | omega | (simp only [List.length_append, List.length_singleton]; omega)) (by omega) (by omega)) (by omega) ?_ rfl
    rintro r1 σ3 ⟨rfl, hf3, hL3⟩
    have hfr3 := jn_wg_tr hfr2 hf3
    show jw_W (js_S n) _ md_329 33 [some (.inr (.inr 103)), some (.inl i), some (.inl q), some (.inr (.inl (jm_of (jm_cc σ i q) (σ 135 i) 1))), none] [] σ3 _
    refine jw_W_re rfl ?_
    have etx : L ++ jn_fx (jm_of (jm_cc σ i q) (σ 135 i) 0) (jm_of (jm_cc σ i q) (σ 135 i) 1) = (((L ++ jn_dg (jm_of (jm_cc σ i q) (σ 135 i) 0)) ++ [47]) ++ jn_dg (jm_of (jm_cc σ i q) (σ 135 i) 1)) := by
      unfold jn_fx
      rw [if_neg (by omega)]
      simp only [List.append_assoc, List.cons_append, List.nil_append, List.append_nil]
    rw [etx]
    exact ⟨rfl, hfr3, hL3⟩
theorem jm_spelt_loop {n : Nat} {σ0 : jw_H} {D : Nat} (hD : 3 ≤ D) {C : List (ge_R × Int)} (hKN0 : jm_KN σ0 C) {i t : Int} (i0 : 0 ≤ i) (i1 : i < σ0 103 56) (t0 : 0 ≤ t) (ht : jw_rg t) : ∀ (f : Nat) {σ : jw_H} {q : Int}, 0 ≤ q → q + f = σ0 103 3 → jn_wg σ0 σ → jn_tl 143 103 73 σ (jn_tx σ0 i q.toNat) → jw_W (js_S n) D md_330 17 [some (.inr (.inr 103)), some (.inl i), some (.inl t), some (.inl q)] [] σ (fun r σ' => ∃ v, r = some (.inl v) ∧ jn_wg σ0 σ' ∧ ((v = -2 ∧ ((jn_tx σ0 i (σ0 103 3).toNat).length : Int) ≤ t) ∨ (jn_tx σ0 i (σ0 103 3).toNat)[t.toNat]? = some v))
  | f, σ, q, q0, hk, hfr, hL => by
    have ih : ∀ {σ' : jw_H}, q < σ0 103 3 → jn_wg σ0 σ' → jn_tl 143 103 73 σ' (jn_tx σ0 i (q + 1).toNat) → jw_W (js_S n) D md_330 17 [some (.inr (.inr 103)), some (.inl i), some (.inl t), some (.inl (q + 1))] [] σ' (fun r σ' => ∃ v, r = some (.inl v) ∧ jn_wg σ0 σ' ∧ ((v = -2 ∧ ((jn_tx σ0 i (σ0 103 3).toNat).length : Int) ≤ t) ∨ (jn_tx σ0 i (σ0 103 3).toNat)[t.toNat]? = some v)) := by
      intro σ' h1 h2 h3
      match f, hk with
      | 0, hk => omega
      | f + 1, hk => exact jm_spelt_loop hD hKN0 i0 i1 t0 ht f (by omega) (by omega) h2 h3
    unfold jw_rg at ht
    have hcb := (jm_kw_cbd hKN0.1).2 σ0 (jm_fk_rf σ0)
    have hq3 := hKN0.1.1.1
    have e0 : σ 103 3 = σ0 103 3 := hfr.2 3 (by omega)
    have hlen := jn_tx_len σ0 i q.toNat
    have hL0 := hL.1
    refine jw_W_n 2 (i' := 19) (ls' := [some (.inr (.inr 103)), some (.inl i), some (.inl t), some (.inl q)]) (st' := [.inr (.inr 103), .inl q]) rfl ?_
    refine jw_W_gf rfl rfl rfl ?_
    show jw_W (js_S n) _ md_330 20 [some (.inr (.inr 103)), some (.inl i), some (.inl t), some (.inl q)] [.inl (σ 103 3), .inl q] σ _
    refine jw_W_ic rfl (by unfold jw_rg; omega) (by unfold jw_rg; omega) (fun hc1 => ?_) (fun hc1 => ?_)
    · have hc1 : q ≥ (σ 103 3) := hc1
      refine jw_W_n 2 (i' := 34) (ls' := [some (.inr (.inr 103)), some (.inl i), some (.inl t), some (.inl q)]) (st' := [.inr (.inr 103), .inl t]) rfl ?_
      refine jw_W_gf rfl rfl rfl ?_
      show jw_W (js_S n) _ md_330 35 [some (.inr (.inr 103)), some (.inl i), some (.inl t), some (.inl q)] [.inl (σ 103 73), .inl t] σ _
      refine jw_W_ic rfl (by unfold jw_rg; omega) (by unfold jw_rg; omega) (fun hc2 => ?_) (fun hc2 => ?_)
      · have hc2 : t ≥ (σ 103 73) := hc2
        refine jw_W_n 1 (i' := 42) (ls' := [some (.inr (.inr 103)), some (.inl i), some (.inl t), some (.inl q)]) (st' := [.inl ((-2))]) rfl ?_
        refine jw_W_ir rfl ?_
        have hkl : q = σ0 103 3 := by omega
        subst hkl
        exact ⟨_, rfl, hfr, .inl ⟨rfl, by omega⟩⟩
      · have hc2 : ¬ (t ≥ (σ 103 73)) := hc2
        refine jw_W_n 1 (i' := 37) (ls' := [some (.inr (.inr 103)), some (.inl i), some (.inl t), some (.inl q)]) (st' := [.inr (.inr 103)]) rfl ?_
        refine jw_W_gf rfl rfl rfl ?_
        show jw_W (js_S n) _ md_330 38 [some (.inr (.inr 103)), some (.inl i), some (.inl t), some (.inl q)] [.inr (.inr 143)] σ _
        refine jw_W_n 1 (i' := 39) (ls' := [some (.inr (.inr 103)), some (.inl i), some (.inl t), some (.inl q)]) (st' := [.inl t, .inr (.inr 143)]) rfl ?_
        refine jw_W_ia rfl rfl (by omega) (by omega) (by omega) ?_
        show jw_W (js_S n) _ md_330 40 [some (.inr (.inr 103)), some (.inl i), some (.inl t), some (.inl q)] [.inl (σ 143 t)] σ _
        refine jw_W_n 1 (i' := 42) (ls' := [some (.inr (.inr 103)), some (.inl i), some (.inl t), some (.inl q)]) (st' := [.inl (σ 143 t)]) rfl ?_
        refine jw_W_ir rfl ?_
        have hkl : q = σ0 103 3 := by omega
        subst hkl
        have hg := List.getElem?_eq_getElem (l := jn_tx σ0 i (σ0 103 3).toNat) (i := t.toNat) (by omega)
        have hx := hL.2 _ _ hg
        rw [Int.toNat_of_nonneg t0] at hx
        exact ⟨_, rfl, hfr, .inr (by rw [hx]; exact hg)⟩
    · have hc1 : ¬ (q ≥ (σ 103 3)) := hc1
      refine jw_W_n 1 (i' := 22) (ls' := [some (.inr (.inr 103)), some (.inl i), some (.inl t), some (.inl q)]) (st' := [.inl q]) rfl ?_
      refine jw_W_if rfl (by unfold jw_rg; omega) (fun hc3 => ?_) (fun hc3 => ?_)
      · have hc3 : q ≤ 0 := hc3
        refine jw_W_n 3 (i' := 29) (ls' := [some (.inr (.inr 103)), some (.inl i), some (.inl t), some (.inl q)]) (st' := [.inl q, .inl i, .inr (.inr 103)]) rfl ?_
        refine jw_W_call (as := [.inr (.inr 103), .inl i, .inl q]) (rest := []) rfl rfl rfl rfl (Nat.le_of_ble_eq_true rfl) (.inr rfl) (jm_tellsFraction (jn_wg_cbd hfr hcb) i0 (by rw [hfr.2 56 (by omega)]; exact i1) q0 (by omega) hL (by omega)) (by omega) ?_ rfl
        rintro r1 σ1 ⟨rfl, hf1, hL1⟩
        have hfr1 := jn_wg_tr hfr hf1
        rw [jn_wg_cc hfr, hfr.1 135 (by omega) (by omega)] at hL1
        show jw_W (js_S n) _ md_330 30 [some (.inr (.inr 103)), some (.inl i), some (.inl t), some (.inl q)] [] σ1 _
        refine jw_W_n 2 (i' := 17) (ls' := [some (.inr (.inr 103)), some (.inl i), some (.inl t), some (.inl (q + 1))]) (st' := []) rfl ?_
        refine ih (by omega) hfr1 ?_
        rw [jn_tx_s q0, if_pos (by omega), List.append_nil]
        exact hL1
      · have hc3 : ¬ (q ≤ 0) := hc3
        refine jw_W_n 2 (i' := 25) (ls' := [some (.inr (.inr 103)), some (.inl i), some (.inl t), some (.inl q)]) (st' := [.inl 44, .inr (.inr 103)]) rfl ?_
        refine jw_W_call (as := [.inr (.inr 103), .inl 44]) (rest := []) rfl rfl rfl rfl (Nat.le_of_ble_eq_true rfl) (.inr rfl) (jm_tells hL (by omega)) (by omega) ?_ rfl
        rintro r1 σ2 ⟨rfl, hf2, hL2⟩
        have hfr2 := jn_wg_tr hfr hf2
        show jw_W (js_S n) _ md_330 26 [some (.inr (.inr 103)), some (.inl i), some (.inl t), some (.inl q)] [] σ2 _
        refine jw_W_n 3 (i' := 29) (ls' := [some (.inr (.inr 103)), some (.inl i), some (.inl t), some (.inl q)]) (st' := [.inl q, .inl i, .inr (.inr 103)]) rfl ?_
        refine jw_W_call (as := [.inr (.inr 103), .inl i, .inl q]) (rest := []) rfl rfl rfl rfl (Nat.le_of_ble_eq_true rfl) (.inr rfl) (jm_tellsFraction (jn_wg_cbd hfr2 hcb) i0 (by rw [hfr2.2 56 (by omega)]; exact i1) q0 (by omega) hL2 (by simp only [List.length_append, List.length_singleton]; omega)) (by omega) ?_ rfl
        rintro r1 σ3 ⟨rfl, hf3, hL3⟩
        have hfr3 := jn_wg_tr hfr2 hf3
        rw [jn_wg_cc hfr2, hfr2.1 135 (by omega) (by omega)] at hL3
        show jw_W (js_S n) _ md_330 30 [some (.inr (.inr 103)), some (.inl i), some (.inl t), some (.inl q)] [] σ3 _
        refine jw_W_n 2 (i' := 17) (ls' := [some (.inr (.inr 103)), some (.inl i), some (.inl t), some (.inl (q + 1))]) (st' := []) rfl ?_
        refine ih (by omega) hfr3 ?_
        rw [jn_tx_s q0, if_neg (by omega)]
        exact hL3
theorem jm_spelt {n : Nat} {σ : jw_H} {C : List (ge_R × Int)} (hKN : jm_KN σ C) {i t : Int} (hi : jw_rg i) (ht : jw_rg t) : jw_T (js_S n) 5 330 [.inr (.inr 103), .inl i, .inl t] σ (fun r σ' => ∃ v, r = some (.inl v) ∧ jm_fz σ σ' ∧ jn_spa σ i t v) := by
  refine jw_T_of (D := 4) (M := mm_330) rfl (Nat.le_of_ble_eq_true rfl) (ls0 := [some (.inr (.inr 103)), some (.inl i), some (.inl t), none]) rfl ?_ (by rintro _ _ ⟨_, rfl, -⟩; rfl)
  have hcb := (jm_kw_cbd hKN.1).2 σ (jm_fk_rf σ)
  have hcn := hcb.1
  have hPm := hKN.1.1
  have hqq := hPm.1
  have hww := hPm.2.1
  have hkk := hPm.2.2.1
  have hg57 := hKN.2.2.1.1
  have hg58 := hKN.2.2.2.1.1
  have rhi := hi
  unfold jw_rg at rhi
  have rht := ht
  unfold jw_rg at rht
  refine jw_W_n 1 (i' := 1) (ls' := [some (.inr (.inr 103)), some (.inl i), some (.inl t), none]) (st' := [.inl i]) rfl ?_
  refine jw_W_if rfl (by unfold jw_rg; omega) (fun hc1 => ?_) (fun hc1 => ?_)
  · have hc1 : i < 0 := hc1
    refine jw_W_n 1 (i' := 5) (ls' := [some (.inr (.inr 103)), some (.inl i), some (.inl t), none]) (st' := [.inl ((-1))]) rfl ?_
    refine jw_W_ir rfl ?_
    exact ⟨_, rfl, jm_fz_rf hKN, .inl ⟨rfl, by omega⟩⟩
  · have hc1 : ¬ (i < 0) := hc1
    refine jw_W_n 1 (i' := 3) (ls' := [some (.inr (.inr 103)), some (.inl i), some (.inl t), none]) (st' := [.inl t]) rfl ?_
    refine jw_W_if rfl (by unfold jw_rg; omega) (fun hc2 => ?_) (fun hc2 => ?_)
    · have hc2 : t ≥ 0 := hc2
      refine jw_W_n 2 (i' := 8) (ls' := [some (.inr (.inr 103)), some (.inl i), some (.inl t), none]) (st' := [.inr (.inr 103), .inl i]) rfl ?_
      refine jw_W_gf rfl rfl rfl ?_
      show jw_W (js_S n) _ md_330 9 [some (.inr (.inr 103)), some (.inl i), some (.inl t), none] [.inl (σ 103 56), .inl i] σ _
      refine jw_W_ic rfl (by unfold jw_rg; omega) (by unfold jw_rg; omega) (fun hc3 => ?_) (fun hc3 => ?_)
      · have hc3 : i < (σ 103 56) := hc3
        refine jw_W_n 2 (i' := 14) (ls' := [some (.inr (.inr 103)), some (.inl i), some (.inl t), none]) (st' := [.inl 0, .inr (.inr 103)]) rfl ?_
        refine jw_W_pf (a := 0) rfl (by omega) rfl rfl rfl rfl rfl ?_
        refine jw_W_n 2 (i' := 17) (ls' := [some (.inr (.inr 103)), some (.inl i), some (.inl t), some (.inl 0)]) (st' := []) rfl ?_
        refine jw_W_mono (jm_spelt_loop (D := 4) (by omega) hKN (by omega) (by omega) (by omega) ht (σ 103 3).toNat (q := 0) (by omega) (by omega) ⟨fun c h1 h2 => jw_up_out _ _ _ h1, fun j hj => jw_up_ne _ (by omega)⟩ ⟨jw_up_eq _ _ _ _, fun k x hx => by cases hx⟩) ?_
        rintro r σ' ⟨v, rfl, hf, hv⟩
        exact ⟨_, rfl, jn_wg_fz hKN hf, .inr ⟨by omega, .inr ⟨by omega, hv⟩⟩⟩
      · have hc3 : ¬ (i < (σ 103 56)) := hc3
        refine jw_W_n 1 (i' := 11) (ls' := [some (.inr (.inr 103)), some (.inl i), some (.inl t), none]) (st' := [.inl ((-4))]) rfl ?_
        refine jw_W_ir rfl ?_
        exact ⟨_, rfl, jm_fz_rf hKN, .inr ⟨by omega, .inl ⟨rfl, by omega⟩⟩⟩
    · have hc2 : ¬ (t ≥ 0) := hc2
      refine jw_W_n 1 (i' := 5) (ls' := [some (.inr (.inr 103)), some (.inl i), some (.inl t), none]) (st' := [.inl ((-1))]) rfl ?_
      refine jw_W_ir rfl ?_
      exact ⟨_, rfl, jm_fz_rf hKN, .inl ⟨rfl, by omega⟩⟩

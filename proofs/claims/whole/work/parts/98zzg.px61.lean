/-! ===== keep, undo, count: class and reference ===== -/
/-- kept by the class -/
def jn_kc (σ : jw_H) (o : Nat) (σ' : jw_H) : Prop := (∀ c, (c < 27 ∨ 32 < c) → c ≠ 13 → σ' c = σ c) ∧ (∀ j, j ≠ 5 → σ' 13 j = σ 13 j) ∧ σ' 13 5 = 1 ∧ ∃ σ1, jn_pc σ o 27 σ1 ∧ ∀ c, 27 ≤ c → c ≤ 32 → σ' c = σ1 c
theorem jx_keep {n : Nat} {σ : jw_H} {o : Nat} {C : List (ge_R × Int)} (hI : jx_I0 n σ o C) (ho2 : o = 15 ∨ o = 21) : jw_T (js_S n) 2 160 [.inr (.inr 13)] σ (fun r σ' => r = some (.inl (σ 103 56)) ∧ jn_kc σ o σ') := by
  refine jw_T_of (D := 1) (M := mm_160) rfl (Nat.le_of_ble_eq_true rfl) (ls0 := [some (.inr (.inr 13))]) rfl ?_ (by rintro _ _ ⟨rfl, -⟩; rfl)
  obtain ⟨hto, hfo, hp, hP, e0, e1, e2, hPm, hcb, c0, p0, -⟩ := jx_I0_x hI
  have ho := hp.1
  have hq := hP.1
  have hw := hP.2.1
  have hq2 := hP.2.2.1
  have hcn := hcb.1
  have ho3 : o = 15 ∨ o = 21 ∨ o = 27 := by omega
  have e0 := (jx_I0_x hI).2.2.2.2.2.2.2.2.2.1
  refine jw_W_n 1 (i' := 1) (ls' := [some (.inr (.inr 13))]) (st' := [.inr (.inr 13)]) rfl ?_
  refine jw_W_gf rfl rfl rfl ?_
  show jw_W (js_S n) _ md_160 2 [some (.inr (.inr 13))] [.inr (.inr 27)] σ _
  refine jw_W_n 1 (i' := 3) (ls' := [some (.inr (.inr 13))]) (st' := [.inr (.inr 13), .inr (.inr 27)]) rfl ?_
  refine jw_W_gf rfl rfl rfl ?_
  show jw_W (js_S n) _ md_160 4 [some (.inr (.inr 13))] [.inr (.inr ((σ 13 2).toNat)), .inr (.inr 27)] σ _
  rw [hto]
  refine jw_W_call (as := [.inr (.inr 27), .inr (.inr o)]) (rest := []) rfl rfl rfl rfl (Nat.le_of_ble_eq_true rfl) (.inr rfl) (jn_pcopy ho3 (by omega) (by omega)) (by omega) ?_ rfl
  rintro r1 σ1 ⟨rfl, hpc⟩
  show jw_W (js_S n) _ md_160 5 [some (.inr (.inr 13))] [] σ1 _
  refine jw_W_n 2 (i' := 7) (ls' := [some (.inr (.inr 13))]) (st' := [.inl 1, .inr (.inr 13)]) rfl ?_
  refine jw_W_pf (a := 1) rfl (by omega) rfl rfl rfl rfl rfl ?_
  refine jw_W_n 1 (i' := 9) (ls' := [some (.inr (.inr 13))]) (st' := [.inr (.inr 13)]) rfl ?_
  refine jw_W_gf rfl rfl rfl ?_
  show jw_W (js_S n) _ md_160 10 [some (.inr (.inr 13))] [.inr (.inr 57)] ((jw_up σ1 13 5 1)) _
  refine jw_W_gf rfl rfl rfl ?_
  show jw_W (js_S n) _ md_160 11 [some (.inr (.inr 13))] [.inl (σ1 57 0)] ((jw_up σ1 13 5 1)) _
  refine jw_W_ir rfl ?_
  refine ⟨?_, ?_, ?_, ?_, σ1, hpc, fun c h1 h2 => ?_⟩
  · rw [hpc.1 57 (by omega), e0]
  · intro c h1 h2
    rw [jw_up_out _ _ _ (by omega)]
    exact hpc.1 c (by omega)
  · intro j hj
    rw [jw_up_ne _ (by omega), hpc.1 13 (by omega)]
  · exact jw_up_eq _ _ _ _
  · rw [jw_up_out _ _ _ (by omega)]
/-- undone by the class -/
def jn_uc (σ : jw_H) (o : Nat) (σ' : jw_H) : Prop := ∃ σ1, jn_pc σ 27 o σ1 ∧ jx_bd1 σ1 o σ'
theorem jx_undo {n : Nat} {σ : jw_H} {o : Nat} {C : List (ge_R × Int)} (hI : jx_I0 n σ o C) (ho2 : o = 15 ∨ o = 21) (hk : σ 13 5 = 0 ∨ σ 13 5 = 1 ∧ jx_Pb σ 27) : jw_T (js_S n) 7 161 [.inr (.inr 13)] σ (fun r σ' => (r = some (.inl 0) ∧ σ' = σ ∧ σ 13 5 = 0) ∨ (r = some (.inl 1) ∧ jn_uc σ o σ' ∧ σ 13 5 = 1)) := by
  refine jw_T_of (D := 6) (M := mm_161) rfl (Nat.le_of_ble_eq_true rfl) (ls0 := [some (.inr (.inr 13))]) rfl ?_ (by rintro _ _ (⟨rfl, -⟩ | ⟨rfl, -⟩) <;> rfl)
  obtain ⟨hto, hfo, hp, hP, e0, e1, e2, hPm, hcb, c0, p0, -⟩ := jx_I0_x hI
  have ho := hp.1
  have hq := hP.1
  have hw := hP.2.1
  have hq2 := hP.2.2.1
  have hcn := hcb.1
  have ho3 : o = 15 ∨ o = 21 ∨ o = 27 := by omega
  refine jw_W_n 1 (i' := 1) (ls' := [some (.inr (.inr 13))]) (st' := [.inr (.inr 13)]) rfl ?_
  refine jw_W_gf rfl rfl rfl ?_
  show jw_W (js_S n) _ md_161 2 [some (.inr (.inr 13))] [.inl (σ 13 5)] σ _
  refine jw_W_if rfl (by unfold jw_rg; omega) (fun hc1 => ?_) (fun hc1 => ?_)
  · have hc1 : (σ 13 5) ≠ 0 := hc1
    have hP27 := (hk.resolve_left (by omega)).2
    refine jw_W_n 1 (i' := 6) (ls' := [some (.inr (.inr 13))]) (st' := [.inr (.inr 13)]) rfl ?_
    refine jw_W_gf rfl rfl rfl ?_
    show jw_W (js_S n) _ md_161 7 [some (.inr (.inr 13))] [.inr (.inr ((σ 13 2).toNat))] σ _
    rw [hto]
    refine jw_W_n 1 (i' := 8) (ls' := [some (.inr (.inr 13))]) (st' := [.inr (.inr 13), .inr (.inr o)]) rfl ?_
    refine jw_W_gf rfl rfl rfl ?_
    show jw_W (js_S n) _ md_161 9 [some (.inr (.inr 13))] [.inr (.inr 27), .inr (.inr o)] σ _
    refine jw_W_call (as := [.inr (.inr o), .inr (.inr 27)]) (rest := []) rfl rfl rfl rfl (Nat.le_of_ble_eq_true rfl) (.inr (jx_rc hp.2.1)) (jn_pcopy (by omega) ho3 (by omega)) (by omega) ?_ rfl
    rintro r1 σ1 ⟨rfl, hpc⟩
    show jw_W (js_S n) _ md_161 10 [some (.inr (.inr 13))] [] σ1 _
    refine jw_W_n 1 (i' := 11) (ls' := [some (.inr (.inr 13))]) (st' := [.inr (.inr 13)]) rfl ?_
    refine jw_W_gf rfl rfl rfl ?_
    show jw_W (js_S n) _ md_161 12 [some (.inr (.inr 13))] [.inr (.inr 57)] σ1 _
    refine jw_W_n 1 (i' := 13) (ls' := [some (.inr (.inr 13))]) (st' := [.inr (.inr 13), .inr (.inr 57)]) rfl ?_
    refine jw_W_gf rfl rfl rfl ?_
    show jw_W (js_S n) _ md_161 14 [some (.inr (.inr 13))] [.inr (.inr ((σ1 13 2).toNat)), .inr (.inr 57)] σ1 _
    rw [show (σ1 13 2).toNat = o by rw [hpc.1 13 (by omega)]; exact hto]
    refine jw_W_call (as := [.inr (.inr 57), .inr (.inr o)]) (rest := []) rfl rfl rfl rfl (Nat.le_of_ble_eq_true rfl) (.inr rfl) (jx_build hp (jn_pc_Pb hpc hP27)) (by omega) ?_ rfl
    rintro r1 σ2 ⟨rfl, hbd⟩
    show jw_W (js_S n) _ md_161 15 [some (.inr (.inr 13))] [] σ2 _
    refine jw_W_n 1 (i' := 16) (ls' := [some (.inr (.inr 13))]) (st' := [.inl 1]) rfl ?_
    refine jw_W_ir rfl ?_
    exact .inr ⟨rfl, ⟨σ1, hpc, hbd⟩, by omega⟩
  · have hc1 : (σ 13 5) = 0 := Classical.not_not.mp hc1
    refine jw_W_n 1 (i' := 4) (ls' := [some (.inr (.inr 13))]) (st' := [.inl 0]) rfl ?_
    refine jw_W_ir rfl ?_
    exact .inl ⟨rfl, rfl, by omega⟩
theorem jx_count {n : Nat} {σ : jw_H} {t : Int} (ht : jw_rg t) : jw_T (js_S n) 1 163 [.inr (.inr 13), .inl t] σ (fun r σ' => r = some (.inl (if t = 0 then σ 42 0 else if t = 1 then σ 13 1 else -1)) ∧ σ' = σ) := by
  refine jw_T_of (D := 0) (M := mm_163) rfl (Nat.le_of_ble_eq_true rfl) (ls0 := [some (.inr (.inr 13)), some (.inl t)]) rfl ?_ (by rintro _ _ ⟨rfl, -⟩; rfl)
  have rht := ht
  unfold jw_rg at rht
  refine jw_W_n 1 (i' := 1) (ls' := [some (.inr (.inr 13)), some (.inl t)]) (st' := [.inl t]) rfl ?_
  refine jw_W_if rfl (by unfold jw_rg; omega) (fun hc1 => ?_) (fun hc1 => ?_)
  · have hc1 : t ≠ 0 := hc1
    refine jw_W_n 2 (i' := 8) (ls' := [some (.inr (.inr 13)), some (.inl t)]) (st' := [.inl 1, .inl t]) rfl ?_
    refine jw_W_ic rfl (by unfold jw_rg; omega) (by unfold jw_rg; omega) (fun hc2 => ?_) (fun hc2 => ?_)
    · have hc2 : t ≠ 1 := hc2
      refine jw_W_n 1 (i' := 13) (ls' := [some (.inr (.inr 13)), some (.inl t)]) (st' := [.inl ((-1))]) rfl ?_
      refine jw_W_ir rfl ?_
      exact ⟨by rw [if_neg (by omega), if_neg (by omega)], rfl⟩
    · have hc2 : t = 1 := Classical.not_not.mp hc2
      refine jw_W_n 1 (i' := 10) (ls' := [some (.inr (.inr 13)), some (.inl t)]) (st' := [.inr (.inr 13)]) rfl ?_
      refine jw_W_gf rfl rfl rfl ?_
      show jw_W (js_S n) _ md_163 11 [some (.inr (.inr 13)), some (.inl t)] [.inl (σ 13 1)] σ _
      refine jw_W_n 1 (i' := 13) (ls' := [some (.inr (.inr 13)), some (.inl t)]) (st' := [.inl (σ 13 1)]) rfl ?_
      refine jw_W_ir rfl ?_
      exact ⟨by rw [if_neg (by omega), if_pos (by omega)], rfl⟩
  · have hc1 : t = 0 := Classical.not_not.mp hc1
    refine jw_W_n 1 (i' := 3) (ls' := [some (.inr (.inr 13)), some (.inl t)]) (st' := [.inr (.inr 13)]) rfl ?_
    refine jw_W_gf rfl rfl rfl ?_
    show jw_W (js_S n) _ md_163 4 [some (.inr (.inr 13)), some (.inl t)] [.inr (.inr 42)] σ _
    refine jw_W_gf rfl rfl rfl ?_
    show jw_W (js_S n) _ md_163 5 [some (.inr (.inr 13)), some (.inl t)] [.inl (σ 42 0)] σ _
    refine jw_W_ir rfl ?_
    exact ⟨by rw [if_pos (by omega)], rfl⟩
theorem jm_count {n : Nat} {σ : jw_H} {t : Int} (ht : jw_rg t) : jw_T (js_S n) 1 334 [.inr (.inr 103), .inl t] σ (fun r σ' => r = some (.inl (if t = 0 then σ 103 16 else if t = 1 then σ 103 7 else -1)) ∧ σ' = σ) := by
  refine jw_T_of (D := 0) (M := mm_334) rfl (Nat.le_of_ble_eq_true rfl) (ls0 := [some (.inr (.inr 103)), some (.inl t)]) rfl ?_ (by rintro _ _ ⟨rfl, -⟩; rfl)
  have rht := ht
  unfold jw_rg at rht
  refine jw_W_n 1 (i' := 1) (ls' := [some (.inr (.inr 103)), some (.inl t)]) (st' := [.inl t]) rfl ?_
  refine jw_W_if rfl (by unfold jw_rg; omega) (fun hc1 => ?_) (fun hc1 => ?_)
  · have hc1 : t ≠ 0 := hc1
    refine jw_W_n 2 (i' := 7) (ls' := [some (.inr (.inr 103)), some (.inl t)]) (st' := [.inl 1, .inl t]) rfl ?_
    refine jw_W_ic rfl (by unfold jw_rg; omega) (by unfold jw_rg; omega) (fun hc2 => ?_) (fun hc2 => ?_)
    · have hc2 : t ≠ 1 := hc2
      refine jw_W_n 1 (i' := 12) (ls' := [some (.inr (.inr 103)), some (.inl t)]) (st' := [.inl ((-1))]) rfl ?_
      refine jw_W_ir rfl ?_
      exact ⟨by rw [if_neg (by omega), if_neg (by omega)], rfl⟩
    · have hc2 : t = 1 := Classical.not_not.mp hc2
      refine jw_W_n 1 (i' := 9) (ls' := [some (.inr (.inr 103)), some (.inl t)]) (st' := [.inr (.inr 103)]) rfl ?_
      refine jw_W_gf rfl rfl rfl ?_
      show jw_W (js_S n) _ md_334 10 [some (.inr (.inr 103)), some (.inl t)] [.inl (σ 103 7)] σ _
      refine jw_W_n 1 (i' := 12) (ls' := [some (.inr (.inr 103)), some (.inl t)]) (st' := [.inl (σ 103 7)]) rfl ?_
      refine jw_W_ir rfl ?_
      exact ⟨by rw [if_neg (by omega), if_pos (by omega)], rfl⟩
  · have hc1 : t = 0 := Classical.not_not.mp hc1
    refine jw_W_n 1 (i' := 3) (ls' := [some (.inr (.inr 103)), some (.inl t)]) (st' := [.inr (.inr 103)]) rfl ?_
    refine jw_W_gf rfl rfl rfl ?_
    show jw_W (js_S n) _ md_334 4 [some (.inr (.inr 103)), some (.inl t)] [.inl (σ 103 16)] σ _
    refine jw_W_n 1 (i' := 12) (ls' := [some (.inr (.inr 103)), some (.inl t)]) (st' := [.inl (σ 103 16)]) rfl ?_
    refine jw_W_ir rfl ?_
    exact ⟨by rw [if_pos (by omega)], rfl⟩
/-- kept by the reference, so far -/
def jn_kr (σ0 σ : jw_H) (a b c : Int) : Prop := ((∀ o, o ≠ 144 → o ≠ 103 → σ o = σ0 o) ∧ (∀ j, j ≠ 75 → σ 103 j = σ0 103 j) ∧ σ 103 75 = 1) ∧ (σ 144 0 = σ0 103 3 ∧ σ 144 1 = σ0 103 4 ∧ σ 144 2 = σ0 103 5) ∧ (∀ j, 0 ≤ j → j < a → σ 144 (3 + j) = σ0 104 j) ∧ (∀ j, 0 ≤ j → j < b → σ 144 (12 + j) = σ0 105 j) ∧ ∀ j, 0 ≤ j → j < c → σ 144 (32 + j) = σ0 106 j
theorem jn_kr_up {σ0 σ : jw_H} {a b c k v : Int} (h : jn_kr σ0 σ a b c) (a1 : a ≤ 9) (b1 : b ≤ 20) (hk : 3 + a ≤ k) (hk2 : k < 12 → b = 0) (hk3 : k < 32 → c = 0) (hk4 : 12 ≤ k → 12 + b ≤ k) (hk5 : 32 ≤ k → 32 + c ≤ k) (a0 : 0 ≤ a) (hb2 : 12 ≤ k → k < 32 → 12 + b ≤ k) : jn_kr σ0 (jw_up σ 144 k v) a b c := by
  obtain ⟨⟨h1, h2, h3⟩, ⟨g1, g2, g3⟩, r1, r2, r3⟩ := h
  refine ⟨⟨fun o o1 o2 => ?_, fun j hj => ?_, ?_⟩, ⟨?_, ?_, ?_⟩, fun j j0 j1 => ?_, fun j j0 j1 => ?_, fun j j0 j1 => ?_⟩
  · rw [jw_up_out _ _ _ o1]
    exact h1 o o1 o2
  · rw [jw_up_ne _ (by omega)]
    exact h2 j hj
  · rw [jw_up_ne _ (by omega)]
    exact h3
  · rw [jw_up_ne _ (by omega)]
    exact g1
  · rw [jw_up_ne _ (by omega)]
    exact g2
  · rw [jw_up_ne _ (by omega)]
    exact g3
  · rw [jw_up_ne _ (by omega)]
    exact r1 j j0 j1
  · rw [jw_up_ne _ (by omega)]
    exact r2 j j0 j1
  · rw [jw_up_ne _ (by omega)]
    exact r3 j j0 j1
theorem jn_kr_a {σ0 σ : jw_H} {a : Int} (h : jn_kr σ0 σ a 0 0) (a0 : 0 ≤ a) (a1 : a < 9) : jn_kr σ0 (jw_up σ 144 (3 + a) (σ 104 a)) (a + 1) 0 0 := by
  have h2 := jn_kr_up (k := 3 + a) (v := σ 104 a) h (by omega) (by omega) (by omega) (by omega) (by omega) (by omega) (by omega) a0 (by omega)
  refine ⟨h2.1, h2.2.1, fun j j0 j1 => ?_, h2.2.2.2.1, h2.2.2.2.2⟩
  by_cases e : j = a
  · rw [e, jw_up_eq, h.1.1 104 (by omega) (by omega)]
  · exact h2.2.2.1 j j0 (by omega)
theorem jn_kr_b {σ0 σ : jw_H} {b : Int} (h : jn_kr σ0 σ 9 b 0) (b0 : 0 ≤ b) (b1 : b < 20) : jn_kr σ0 (jw_up σ 144 (12 + b) (σ 105 b)) 9 (b + 1) 0 := by
  have h2 := jn_kr_up (k := 12 + b) (v := σ 105 b) h (by omega) (by omega) (by omega) (by omega) (by omega) (by omega) (by omega) (by omega) (by omega)
  refine ⟨h2.1, h2.2.1, h2.2.2.1, fun j j0 j1 => ?_, h2.2.2.2.2⟩
  by_cases e : j = b
  · rw [e, jw_up_eq, h.1.1 105 (by omega) (by omega)]
  · exact h2.2.2.2.1 j j0 (by omega)
theorem jn_kr_c {σ0 σ : jw_H} {c : Int} (h : jn_kr σ0 σ 9 20 c) (c0 : 0 ≤ c) (c1 : c < 3) : jn_kr σ0 (jw_up σ 144 (32 + c) (σ 106 c)) 9 20 (c + 1) := by
  have h2 := jn_kr_up (k := 32 + c) (v := σ 106 c) h (by omega) (by omega) (by omega) (by omega) (by omega) (by omega) (by omega) (by omega) (by omega)
  refine ⟨h2.1, h2.2.1, h2.2.2.1, h2.2.2.2.1, fun j j0 j1 => ?_⟩
  by_cases e : j = c
  · rw [e, jw_up_eq, h.1.1 106 (by omega) (by omega)]
  · exact h2.2.2.2.2 j j0 (by omega)
/-- undone by the reference, so far -/
def jn_ur (σ0 σ : jw_H) (a b c : Int) : Prop := ((∀ o, (o < 103 ∨ 106 < o) → σ o = σ0 o) ∧ (∀ j, (j < 3 ∨ 5 < j) → σ 103 j = σ0 103 j)) ∧ (σ 103 3 = σ0 144 0 ∧ σ 103 4 = σ0 144 1 ∧ σ 103 5 = σ0 144 2) ∧ (∀ j, 0 ≤ j → j < a → σ 104 j = σ0 144 (3 + j)) ∧ (∀ j, 0 ≤ j → j < b → σ 105 j = σ0 144 (12 + j)) ∧ ∀ j, 0 ≤ j → j < c → σ 106 j = σ0 144 (32 + j)
theorem jn_ur_a {σ0 σ : jw_H} {a b c : Int} (h : jn_ur σ0 σ a b c) : jn_ur σ0 (jw_up σ 104 a (σ 144 (3 + a))) (a + 1) b c := by
  obtain ⟨⟨h1, h2⟩, ⟨g1, g2, g3⟩, r1, r2, r3⟩ := h
  refine ⟨⟨fun o o1 => ?_, fun j hj => ?_⟩, ⟨g1, g2, g3⟩, fun j j0 j1 => ?_, r2, r3⟩
  · rw [jw_up_out _ _ _ (by omega)]
    exact h1 o o1
  · exact h2 j hj
  · by_cases e : j = a
    · rw [e, jw_up_eq, h1 144 (by omega)]
    · rw [jw_up_ne _ (by omega)]
      exact r1 j j0 (by omega)
theorem jn_ur_b {σ0 σ : jw_H} {a b c : Int} (h : jn_ur σ0 σ a b c) : jn_ur σ0 (jw_up σ 105 b (σ 144 (12 + b))) a (b + 1) c := by
  obtain ⟨⟨h1, h2⟩, ⟨g1, g2, g3⟩, r1, r2, r3⟩ := h
  refine ⟨⟨fun o o1 => ?_, fun j hj => ?_⟩, ⟨g1, g2, g3⟩, r1, fun j j0 j1 => ?_, r3⟩
  · rw [jw_up_out _ _ _ (by omega)]
    exact h1 o o1
  · exact h2 j hj
  · by_cases e : j = b
    · rw [e, jw_up_eq, h1 144 (by omega)]
    · rw [jw_up_ne _ (by omega)]
      exact r2 j j0 (by omega)
theorem jn_ur_c {σ0 σ : jw_H} {a b c : Int} (h : jn_ur σ0 σ a b c) : jn_ur σ0 (jw_up σ 106 c (σ 144 (32 + c))) a b (c + 1) := by
  obtain ⟨⟨h1, h2⟩, ⟨g1, g2, g3⟩, r1, r2, r3⟩ := h
  refine ⟨⟨fun o o1 => ?_, fun j hj => ?_⟩, ⟨g1, g2, g3⟩, r1, r2, fun j j0 j1 => ?_⟩
  · rw [jw_up_out _ _ _ (by omega)]
    exact h1 o o1
  · exact h2 j hj
  · by_cases e : j = c
    · rw [e, jw_up_eq, h1 144 (by omega)]
    · rw [jw_up_ne _ (by omega)]
      exact r3 j j0 (by omega)
theorem jn_keep_a {n : Nat} {σ0 : jw_H} {D : Nat} {Q : Option jw_V → jw_H → Prop} (hQ : ∀ σ, jn_kr σ0 σ 9 0 0 → jw_W (js_S n) D md_331 38 [some (.inr (.inr 103)), some (.inl 9)] [] σ Q) : ∀ (f : Nat) {σ : jw_H} {i : Int}, 0 ≤ i → i + f = 9 → jn_kr σ0 σ i 0 0 → jw_W (js_S n) D md_331 23 [some (.inr (.inr 103)), some (.inl i)] [] σ Q
  | f, σ, i, i0, hk, H => by
    have ih : ∀ {σ' : jw_H}, i < 9 → jn_kr σ0 σ' (i + 1) 0 0 → jw_W (js_S n) D md_331 23 [some (.inr (.inr 103)), some (.inl (i + 1))] [] σ' Q := by
      intro σ' h1 h2
      match f, hk with
      | 0, hk => omega
      | f + 1, hk => exact jn_keep_a hQ f (by omega) (by omega) h2
    refine jw_W_n 2 (i' := 25) (ls' := [some (.inr (.inr 103)), some (.inl i)]) (st' := [.inl 9, .inl i]) rfl ?_
    refine jw_W_ic rfl (by unfold jw_rg; omega) (by unfold jw_rg; omega) (fun hc1 => ?_) (fun hc1 => ?_)
    · have hc1 : i ≥ 9 := hc1
      have hkl : i = 9 := by omega
      subst hkl
      exact hQ σ H
    · have hc1 : ¬ (i ≥ 9) := hc1
      refine jw_W_n 1 (i' := 27) (ls' := [some (.inr (.inr 103)), some (.inl i)]) (st' := [.inr (.inr 103)]) rfl ?_
      refine jw_W_gf rfl rfl rfl ?_
      show jw_W (js_S n) _ md_331 28 [some (.inr (.inr 103)), some (.inl i)] [.inr (.inr 144)] σ _
      refine jw_W_n 4 (i' := 32) (ls' := [some (.inr (.inr 103)), some (.inl i)]) (st' := [.inr (.inr 103), .inl (3 + i), .inr (.inr 144)]) rfl ?_
      refine jw_W_gf rfl rfl rfl ?_
      show jw_W (js_S n) _ md_331 33 [some (.inr (.inr 103)), some (.inl i)] [.inr (.inr 104), .inl (3 + i), .inr (.inr 144)] σ _
      refine jw_W_n 1 (i' := 34) (ls' := [some (.inr (.inr 103)), some (.inl i)]) (st' := [.inl i, .inr (.inr 104), .inl (3 + i), .inr (.inr 144)]) rfl ?_
      refine jw_W_ia rfl rfl (by omega) (by omega) (by omega) ?_
      show jw_W (js_S n) _ md_331 35 [some (.inr (.inr 103)), some (.inl i)] [.inl (σ 104 i), .inl (3 + i), .inr (.inr 144)] σ _
      refine jw_W_is rfl (by omega) rfl (by omega) (by omega) (by omega) ?_
      refine jw_W_n 2 (i' := 23) (ls' := [some (.inr (.inr 103)), some (.inl (i + 1))]) (st' := []) rfl ?_
      exact ih (by omega) (jn_kr_a H i0 (by omega))
theorem jn_keep_b {n : Nat} {σ0 : jw_H} {D : Nat} {Q : Option jw_V → jw_H → Prop} (hQ : ∀ σ, jn_kr σ0 σ 9 20 0 → jw_W (js_S n) D md_331 55 [some (.inr (.inr 103)), some (.inl 20)] [] σ Q) : ∀ (f : Nat) {σ : jw_H} {i : Int}, 0 ≤ i → i + f = 20 → jn_kr σ0 σ 9 i 0 → jw_W (js_S n) D md_331 40 [some (.inr (.inr 103)), some (.inl i)] [] σ Q
  | f, σ, i, i0, hk, H => by
    have ih : ∀ {σ' : jw_H}, i < 20 → jn_kr σ0 σ' 9 (i + 1) 0 → jw_W (js_S n) D md_331 40 [some (.inr (.inr 103)), some (.inl (i + 1))] [] σ' Q := by
      intro σ' h1 h2
      match f, hk with
      | 0, hk => omega
      | f + 1, hk => exact jn_keep_b hQ f (by omega) (by omega) h2
    refine jw_W_n 2 (i' := 42) (ls' := [some (.inr (.inr 103)), some (.inl i)]) (st' := [.inl 20, .inl i]) rfl ?_
    refine jw_W_ic rfl (by unfold jw_rg; omega) (by unfold jw_rg; omega) (fun hc1 => ?_) (fun hc1 => ?_)
    · have hc1 : i ≥ 20 := hc1
      have hkl : i = 20 := by omega
      subst hkl
      exact hQ σ H
    · have hc1 : ¬ (i ≥ 20) := hc1
      refine jw_W_n 1 (i' := 44) (ls' := [some (.inr (.inr 103)), some (.inl i)]) (st' := [.inr (.inr 103)]) rfl ?_
      refine jw_W_gf rfl rfl rfl ?_
      show jw_W (js_S n) _ md_331 45 [some (.inr (.inr 103)), some (.inl i)] [.inr (.inr 144)] σ _
      refine jw_W_n 4 (i' := 49) (ls' := [some (.inr (.inr 103)), some (.inl i)]) (st' := [.inr (.inr 103), .inl (12 + i), .inr (.inr 144)]) rfl ?_
      refine jw_W_gf rfl rfl rfl ?_
      show jw_W (js_S n) _ md_331 50 [some (.inr (.inr 103)), some (.inl i)] [.inr (.inr 105), .inl (12 + i), .inr (.inr 144)] σ _
      refine jw_W_n 1 (i' := 51) (ls' := [some (.inr (.inr 103)), some (.inl i)]) (st' := [.inl i, .inr (.inr 105), .inl (12 + i), .inr (.inr 144)]) rfl ?_
      refine jw_W_ia rfl rfl (by omega) (by omega) (by omega) ?_
      show jw_W (js_S n) _ md_331 52 [some (.inr (.inr 103)), some (.inl i)] [.inl (σ 105 i), .inl (12 + i), .inr (.inr 144)] σ _
      refine jw_W_is rfl (by omega) rfl (by omega) (by omega) (by omega) ?_
      refine jw_W_n 2 (i' := 40) (ls' := [some (.inr (.inr 103)), some (.inl (i + 1))]) (st' := []) rfl ?_
      exact ih (by omega) (jn_kr_b H i0 (by omega))
theorem jn_keep_c {n : Nat} {σ0 : jw_H} {D : Nat} {Q : Option jw_V → jw_H → Prop} (hQ : ∀ σ, jn_kr σ0 σ 9 20 3 → jw_W (js_S n) D md_331 72 [some (.inr (.inr 103)), some (.inl 3)] [] σ Q) : ∀ (f : Nat) {σ : jw_H} {i : Int}, 0 ≤ i → i + f = 3 → jn_kr σ0 σ 9 20 i → jw_W (js_S n) D md_331 57 [some (.inr (.inr 103)), some (.inl i)] [] σ Q
  | f, σ, i, i0, hk, H => by
    have ih : ∀ {σ' : jw_H}, i < 3 → jn_kr σ0 σ' 9 20 (i + 1) → jw_W (js_S n) D md_331 57 [some (.inr (.inr 103)), some (.inl (i + 1))] [] σ' Q := by
      intro σ' h1 h2
      match f, hk with
      | 0, hk => omega
      | f + 1, hk => exact jn_keep_c hQ f (by omega) (by omega) h2
    refine jw_W_n 2 (i' := 59) (ls' := [some (.inr (.inr 103)), some (.inl i)]) (st' := [.inl 3, .inl i]) rfl ?_
    refine jw_W_ic rfl (by unfold jw_rg; omega) (by unfold jw_rg; omega) (fun hc1 => ?_) (fun hc1 => ?_)
    · have hc1 : i ≥ 3 := hc1
      have hkl : i = 3 := by omega
      subst hkl
      exact hQ σ H
    · have hc1 : ¬ (i ≥ 3) := hc1
      refine jw_W_n 1 (i' := 61) (ls' := [some (.inr (.inr 103)), some (.inl i)]) (st' := [.inr (.inr 103)]) rfl ?_
      refine jw_W_gf rfl rfl rfl ?_
      show jw_W (js_S n) _ md_331 62 [some (.inr (.inr 103)), some (.inl i)] [.inr (.inr 144)] σ _
      refine jw_W_n 4 (i' := 66) (ls' := [some (.inr (.inr 103)), some (.inl i)]) (st' := [.inr (.inr 103), .inl (32 + i), .inr (.inr 144)]) rfl ?_
      refine jw_W_gf rfl rfl rfl ?_
      show jw_W (js_S n) _ md_331 67 [some (.inr (.inr 103)), some (.inl i)] [.inr (.inr 106), .inl (32 + i), .inr (.inr 144)] σ _
      refine jw_W_n 1 (i' := 68) (ls' := [some (.inr (.inr 103)), some (.inl i)]) (st' := [.inl i, .inr (.inr 106), .inl (32 + i), .inr (.inr 144)]) rfl ?_
      refine jw_W_ia rfl rfl (by omega) (by omega) (by omega) ?_
      show jw_W (js_S n) _ md_331 69 [some (.inr (.inr 103)), some (.inl i)] [.inl (σ 106 i), .inl (32 + i), .inr (.inr 144)] σ _
      refine jw_W_is rfl (by omega) rfl (by omega) (by omega) (by omega) ?_
      refine jw_W_n 2 (i' := 57) (ls' := [some (.inr (.inr 103)), some (.inl (i + 1))]) (st' := []) rfl ?_
      exact ih (by omega) (jn_kr_c H i0 (by omega))
theorem jn_undo_a {n : Nat} {σ0 : jw_H} {D : Nat} {Q : Option jw_V → jw_H → Prop} (hQ : ∀ σ, jn_ur σ0 σ 9 0 0 → jw_W (js_S n) D md_332 40 [some (.inr (.inr 103)), some (.inl 9)] [] σ Q) : ∀ (f : Nat) {σ : jw_H} {i : Int}, 0 ≤ i → i + f = 9 → jn_ur σ0 σ i 0 0 → jw_W (js_S n) D md_332 25 [some (.inr (.inr 103)), some (.inl i)] [] σ Q
  | f, σ, i, i0, hk, H => by
    have ih : ∀ {σ' : jw_H}, i < 9 → jn_ur σ0 σ' (i + 1) 0 0 → jw_W (js_S n) D md_332 25 [some (.inr (.inr 103)), some (.inl (i + 1))] [] σ' Q := by
      intro σ' h1 h2
      match f, hk with
      | 0, hk => omega
      | f + 1, hk => exact jn_undo_a hQ f (by omega) (by omega) h2
    refine jw_W_n 2 (i' := 27) (ls' := [some (.inr (.inr 103)), some (.inl i)]) (st' := [.inl 9, .inl i]) rfl ?_
    refine jw_W_ic rfl (by unfold jw_rg; omega) (by unfold jw_rg; omega) (fun hc1 => ?_) (fun hc1 => ?_)
    · have hc1 : i ≥ 9 := hc1
      have hkl : i = 9 := by omega
      subst hkl
      exact hQ σ H
    · have hc1 : ¬ (i ≥ 9) := hc1
      refine jw_W_n 1 (i' := 29) (ls' := [some (.inr (.inr 103)), some (.inl i)]) (st' := [.inr (.inr 103)]) rfl ?_
      refine jw_W_gf rfl rfl rfl ?_
      show jw_W (js_S n) _ md_332 30 [some (.inr (.inr 103)), some (.inl i)] [.inr (.inr 104)] σ _
      refine jw_W_n 2 (i' := 32) (ls' := [some (.inr (.inr 103)), some (.inl i)]) (st' := [.inr (.inr 103), .inl i, .inr (.inr 104)]) rfl ?_
      refine jw_W_gf rfl rfl rfl ?_
      show jw_W (js_S n) _ md_332 33 [some (.inr (.inr 103)), some (.inl i)] [.inr (.inr 144), .inl i, .inr (.inr 104)] σ _
      refine jw_W_n 3 (i' := 36) (ls' := [some (.inr (.inr 103)), some (.inl i)]) (st' := [.inl (3 + i), .inr (.inr 144), .inl i, .inr (.inr 104)]) rfl ?_
      refine jw_W_ia rfl rfl (by omega) (by omega) (by omega) ?_
      show jw_W (js_S n) _ md_332 37 [some (.inr (.inr 103)), some (.inl i)] [.inl (σ 144 (3 + i)), .inl i, .inr (.inr 104)] σ _
      refine jw_W_is rfl (by omega) rfl (by omega) (by omega) (by omega) ?_
      refine jw_W_n 2 (i' := 25) (ls' := [some (.inr (.inr 103)), some (.inl (i + 1))]) (st' := []) rfl ?_
      exact ih (by omega) (jn_ur_a H)
theorem jn_undo_b {n : Nat} {σ0 : jw_H} {D : Nat} {Q : Option jw_V → jw_H → Prop} (hQ : ∀ σ, jn_ur σ0 σ 9 20 0 → jw_W (js_S n) D md_332 57 [some (.inr (.inr 103)), some (.inl 20)] [] σ Q) : ∀ (f : Nat) {σ : jw_H} {i : Int}, 0 ≤ i → i + f = 20 → jn_ur σ0 σ 9 i 0 → jw_W (js_S n) D md_332 42 [some (.inr (.inr 103)), some (.inl i)] [] σ Q
  | f, σ, i, i0, hk, H => by
    have ih : ∀ {σ' : jw_H}, i < 20 → jn_ur σ0 σ' 9 (i + 1) 0 → jw_W (js_S n) D md_332 42 [some (.inr (.inr 103)), some (.inl (i + 1))] [] σ' Q := by
      intro σ' h1 h2
      match f, hk with
      | 0, hk => omega
      | f + 1, hk => exact jn_undo_b hQ f (by omega) (by omega) h2
    refine jw_W_n 2 (i' := 44) (ls' := [some (.inr (.inr 103)), some (.inl i)]) (st' := [.inl 20, .inl i]) rfl ?_
    refine jw_W_ic rfl (by unfold jw_rg; omega) (by unfold jw_rg; omega) (fun hc1 => ?_) (fun hc1 => ?_)
    · have hc1 : i ≥ 20 := hc1
      have hkl : i = 20 := by omega
      subst hkl
      exact hQ σ H
    · have hc1 : ¬ (i ≥ 20) := hc1
      refine jw_W_n 1 (i' := 46) (ls' := [some (.inr (.inr 103)), some (.inl i)]) (st' := [.inr (.inr 103)]) rfl ?_
      refine jw_W_gf rfl rfl rfl ?_
      show jw_W (js_S n) _ md_332 47 [some (.inr (.inr 103)), some (.inl i)] [.inr (.inr 105)] σ _
      refine jw_W_n 2 (i' := 49) (ls' := [some (.inr (.inr 103)), some (.inl i)]) (st' := [.inr (.inr 103), .inl i, .inr (.inr 105)]) rfl ?_
      refine jw_W_gf rfl rfl rfl ?_
      show jw_W (js_S n) _ md_332 50 [some (.inr (.inr 103)), some (.inl i)] [.inr (.inr 144), .inl i, .inr (.inr 105)] σ _
      refine jw_W_n 3 (i' := 53) (ls' := [some (.inr (.inr 103)), some (.inl i)]) (st' := [.inl (12 + i), .inr (.inr 144), .inl i, .inr (.inr 105)]) rfl ?_
      refine jw_W_ia rfl rfl (by omega) (by omega) (by omega) ?_
      show jw_W (js_S n) _ md_332 54 [some (.inr (.inr 103)), some (.inl i)] [.inl (σ 144 (12 + i)), .inl i, .inr (.inr 105)] σ _
      refine jw_W_is rfl (by omega) rfl (by omega) (by omega) (by omega) ?_
      refine jw_W_n 2 (i' := 42) (ls' := [some (.inr (.inr 103)), some (.inl (i + 1))]) (st' := []) rfl ?_
      exact ih (by omega) (jn_ur_b H)
theorem jn_undo_c {n : Nat} {σ0 : jw_H} {D : Nat} {Q : Option jw_V → jw_H → Prop} (hQ : ∀ σ, jn_ur σ0 σ 9 20 3 → jw_W (js_S n) D md_332 74 [some (.inr (.inr 103)), some (.inl 3)] [] σ Q) : ∀ (f : Nat) {σ : jw_H} {i : Int}, 0 ≤ i → i + f = 3 → jn_ur σ0 σ 9 20 i → jw_W (js_S n) D md_332 59 [some (.inr (.inr 103)), some (.inl i)] [] σ Q
  | f, σ, i, i0, hk, H => by
    have ih : ∀ {σ' : jw_H}, i < 3 → jn_ur σ0 σ' 9 20 (i + 1) → jw_W (js_S n) D md_332 59 [some (.inr (.inr 103)), some (.inl (i + 1))] [] σ' Q := by
      intro σ' h1 h2
      match f, hk with
      | 0, hk => omega
      | f + 1, hk => exact jn_undo_c hQ f (by omega) (by omega) h2
    refine jw_W_n 2 (i' := 61) (ls' := [some (.inr (.inr 103)), some (.inl i)]) (st' := [.inl 3, .inl i]) rfl ?_
    refine jw_W_ic rfl (by unfold jw_rg; omega) (by unfold jw_rg; omega) (fun hc1 => ?_) (fun hc1 => ?_)
    · have hc1 : i ≥ 3 := hc1
      have hkl : i = 3 := by omega
      subst hkl
      exact hQ σ H
    · have hc1 : ¬ (i ≥ 3) := hc1
      refine jw_W_n 1 (i' := 63) (ls' := [some (.inr (.inr 103)), some (.inl i)]) (st' := [.inr (.inr 103)]) rfl ?_
      refine jw_W_gf rfl rfl rfl ?_
      show jw_W (js_S n) _ md_332 64 [some (.inr (.inr 103)), some (.inl i)] [.inr (.inr 106)] σ _
      refine jw_W_n 2 (i' := 66) (ls' := [some (.inr (.inr 103)), some (.inl i)]) (st' := [.inr (.inr 103), .inl i, .inr (.inr 106)]) rfl ?_
      refine jw_W_gf rfl rfl rfl ?_
      show jw_W (js_S n) _ md_332 67 [some (.inr (.inr 103)), some (.inl i)] [.inr (.inr 144), .inl i, .inr (.inr 106)] σ _
      refine jw_W_n 3 (i' := 70) (ls' := [some (.inr (.inr 103)), some (.inl i)]) (st' := [.inl (32 + i), .inr (.inr 144), .inl i, .inr (.inr 106)]) rfl ?_
      refine jw_W_ia rfl rfl (by omega) (by omega) (by omega) ?_
      show jw_W (js_S n) _ md_332 71 [some (.inr (.inr 103)), some (.inl i)] [.inl (σ 144 (32 + i)), .inl i, .inr (.inr 106)] σ _
      refine jw_W_is rfl (by omega) rfl (by omega) (by omega) (by omega) ?_
      refine jw_W_n 2 (i' := 59) (ls' := [some (.inr (.inr 103)), some (.inl (i + 1))]) (st' := []) rfl ?_
      exact ih (by omega) (jn_ur_c H)
theorem jm_keep {n : Nat} {σ : jw_H}  : jw_T (js_S n) 1 331 [.inr (.inr 103)] σ (fun r σ' => r = some (.inl (σ 103 56)) ∧ jn_kr σ σ' 9 20 3) := by
  refine jw_T_of (D := 0) (M := mm_331) rfl (Nat.le_of_ble_eq_true rfl) (ls0 := [some (.inr (.inr 103)), none]) rfl ?_ (by rintro _ _ ⟨rfl, -⟩; rfl)
  refine jw_W_n 2 (i' := 2) (ls' := [some (.inr (.inr 103)), none]) (st' := [.inl 1, .inr (.inr 103)]) rfl ?_
  refine jw_W_pf (a := 1) rfl (by omega) rfl rfl rfl rfl rfl ?_
  refine jw_W_n 1 (i' := 4) (ls' := [some (.inr (.inr 103)), none]) (st' := [.inr (.inr 103)]) rfl ?_
  refine jw_W_gf rfl rfl rfl ?_
  show jw_W (js_S n) _ md_331 5 [some (.inr (.inr 103)), none] [.inr (.inr 144)] ((jw_up σ 103 75 1)) _
  refine jw_W_n 2 (i' := 7) (ls' := [some (.inr (.inr 103)), none]) (st' := [.inr (.inr 103), .inl 0, .inr (.inr 144)]) rfl ?_
  refine jw_W_gf rfl rfl rfl ?_
  show jw_W (js_S n) _ md_331 8 [some (.inr (.inr 103)), none] [.inl (σ 103 3), .inl 0, .inr (.inr 144)] ((jw_up σ 103 75 1)) _
  refine jw_W_is rfl (by omega) rfl (by omega) (by omega) (by omega) ?_
  refine jw_W_n 1 (i' := 10) (ls' := [some (.inr (.inr 103)), none]) (st' := [.inr (.inr 103)]) rfl ?_
  refine jw_W_gf rfl rfl rfl ?_
  show jw_W (js_S n) _ md_331 11 [some (.inr (.inr 103)), none] [.inr (.inr 144)] ((jw_up (jw_up σ 103 75 1) 144 0 (σ 103 3))) _
  refine jw_W_n 2 (i' := 13) (ls' := [some (.inr (.inr 103)), none]) (st' := [.inr (.inr 103), .inl 1, .inr (.inr 144)]) rfl ?_
  refine jw_W_gf rfl rfl rfl ?_
  show jw_W (js_S n) _ md_331 14 [some (.inr (.inr 103)), none] [.inl (σ 103 4), .inl 1, .inr (.inr 144)] ((jw_up (jw_up σ 103 75 1) 144 0 (σ 103 3))) _
  refine jw_W_is rfl (by omega) rfl (by omega) (by omega) (by omega) ?_
  refine jw_W_n 1 (i' := 16) (ls' := [some (.inr (.inr 103)), none]) (st' := [.inr (.inr 103)]) rfl ?_
  refine jw_W_gf rfl rfl rfl ?_
  show jw_W (js_S n) _ md_331 17 [some (.inr (.inr 103)), none] [.inr (.inr 144)] ((jw_up (jw_up (jw_up σ 103 75 1) 144 0 (σ 103 3)) 144 1 (σ 103 4))) _
  refine jw_W_n 2 (i' := 19) (ls' := [some (.inr (.inr 103)), none]) (st' := [.inr (.inr 103), .inl 2, .inr (.inr 144)]) rfl ?_
  refine jw_W_gf rfl rfl rfl ?_
  show jw_W (js_S n) _ md_331 20 [some (.inr (.inr 103)), none] [.inl (σ 103 5), .inl 2, .inr (.inr 144)] ((jw_up (jw_up (jw_up σ 103 75 1) 144 0 (σ 103 3)) 144 1 (σ 103 4))) _
  refine jw_W_is rfl (by omega) rfl (by omega) (by omega) (by omega) ?_
  refine jw_W_n 2 (i' := 23) (ls' := [some (.inr (.inr 103)), some (.inl 0)]) (st' := []) rfl ?_
  refine jn_keep_a (fun σa Ha => ?_) 9 (i := 0) (by omega) (by omega) (by
    refine ⟨⟨fun o o1 o2 => ?_, fun j hj => ?_, rfl⟩, ⟨rfl, rfl, rfl⟩, fun j j0 j1 => by omega, fun j j0 j1 => by omega, fun j j0 j1 => by omega⟩
    · rw [jw_up_out _ _ _ o1, jw_up_out _ _ _ o1, jw_up_out _ _ _ o1, jw_up_out _ _ _ o2]
    · rw [jw_up_out _ _ _ (by omega), jw_up_out _ _ _ (by omega), jw_up_out _ _ _ (by omega), jw_up_ne _ (by omega)])
  refine jw_W_n 2 (i' := 40) (ls' := [some (.inr (.inr 103)), some (.inl 0)]) (st' := []) rfl ?_
  refine jn_keep_b (fun σb Hb => ?_) 20 (i := 0) (by omega) (by omega) Ha
  refine jw_W_n 2 (i' := 57) (ls' := [some (.inr (.inr 103)), some (.inl 0)]) (st' := []) rfl ?_
  refine jn_keep_c (fun σc Hc => ?_) 3 (i := 0) (by omega) (by omega) Hb
  refine jw_W_n 1 (i' := 73) (ls' := [some (.inr (.inr 103)), some (.inl 3)]) (st' := [.inr (.inr 103)]) rfl ?_
  refine jw_W_gf rfl rfl rfl ?_
  show jw_W (js_S n) _ md_331 74 [some (.inr (.inr 103)), some (.inl 3)] [.inl (σc 103 56)] σc _
  refine jw_W_ir rfl ?_
  exact ⟨by rw [Hc.1.2.1 56 (by omega)], Hc⟩
/-- what is kept, seen as a model -/
def jn_kM (σ : jw_H) : jw_H := fun c j => if c = 103 then (if j = 3 then σ 144 0 else if j = 4 then σ 144 1 else if j = 5 then σ 144 2 else σ 103 j) else if c = 104 then σ 144 (3 + j) else if c = 105 then σ 144 (12 + j) else if c = 106 then σ 144 (32 + j) else σ c j
theorem jn_ur_pq {σ0 σ : jw_H} (h : jn_ur σ0 σ 9 20 3) (hP : jm_Pb (jn_kM σ0)) : jx_pq (jn_kM σ0) σ := by
  obtain ⟨-, ⟨g1, g2, g3⟩, r1, r2, r3⟩ := h
  have h4 : 0 ≤ σ0 144 1 ∧ σ0 144 1 ≤ 3 := hP.2.1
  have h5 : 0 ≤ σ0 144 2 ∧ σ0 144 2 ≤ 4 := hP.2.2.1
  exact ⟨⟨g1.symm, g2.symm, g3.symm⟩, fun j j0 j1 => (r1 j j0 (by omega)).symm, fun j j0 j1 => (r2 j j0 (by omega)).symm, fun j j0 j1 => (r3 j j0 j1).symm⟩
theorem jn_ur_Pb {σ0 σ : jw_H} (h : jn_ur σ0 σ 9 20 3) (hP : jm_Pb (jn_kM σ0)) : jm_Pb σ := by
  obtain ⟨-, ⟨g1, g2, g3⟩, r1, r2, r3⟩ := h
  obtain ⟨p1, p2, p3, p4, p5, p6⟩ := hP
  have p1 : 1 ≤ σ0 144 0 ∧ σ0 144 0 ≤ 3 := p1
  have p2 : 0 ≤ σ0 144 1 ∧ σ0 144 1 ≤ 3 := p2
  have p3 : 0 ≤ σ0 144 2 ∧ σ0 144 2 ≤ 4 := p3
  unfold jm_Pb
  rw [g1, g2, g3]
  refine ⟨p1, p2, p3, fun k k0 k1 => ⟨fun j j0 j1 => ?_, ?_, ?_⟩, fun j j0 j1 => ?_, fun w w0 w1 j j0 j1 => ?_⟩
  · rw [r2 _ (by omega) (by omega)]
    exact (p4 k k0 k1).1 j j0 j1
  · rw [r2 _ (by omega) (by omega)]
    exact (p4 k k0 k1).2.1
  · rw [r2 _ (by omega) (by omega)]
    exact (p4 k k0 k1).2.2
  · rw [r3 j j0 j1]
    exact p5 j j0 j1
  · rw [r1 _ (by omega) (by omega)]
    exact p6 w w0 w1 j j0 j1
theorem jn_ur_Ns {σ0 σ : jw_H} (h : jn_ur σ0 σ 9 20 3) (hN : jm_Ns σ0) : jm_Ns σ := by
  unfold jm_Ns
  rw [h.1.1 131 (by omega)]
  exact hN
/-- undone by the reference -/
def jn_um (σ σ' : jw_H) : Prop := ∃ σ1, jn_ur σ σ1 9 20 3 ∧ jn_kf σ1 σ' ∧ ∃ C, jm_KN σ' C
theorem jm_undo {n : Nat} {σ : jw_H} (hN : jm_Ns σ) (hk : σ 103 75 = 0 ∨ σ 103 75 = 1 ∧ jm_Pb (jn_kM σ)) : jw_T (js_S n) 9 332 [.inr (.inr 103)] σ (fun r σ' => (r = some (.inl 0) ∧ σ' = σ ∧ σ 103 75 = 0) ∨ (r = some (.inl 1) ∧ σ 103 75 = 1 ∧ jn_um σ σ')) := by
  refine jw_T_of (D := 8) (M := mm_332) rfl (Nat.le_of_ble_eq_true rfl) (ls0 := [some (.inr (.inr 103)), none]) rfl ?_ (by rintro _ _ (⟨rfl, -⟩ | ⟨rfl, -⟩) <;> rfl)
  refine jw_W_n 1 (i' := 1) (ls' := [some (.inr (.inr 103)), none]) (st' := [.inr (.inr 103)]) rfl ?_
  refine jw_W_gf rfl rfl rfl ?_
  show jw_W (js_S n) _ md_332 2 [some (.inr (.inr 103)), none] [.inl (σ 103 75)] σ _
  refine jw_W_if rfl (by unfold jw_rg; omega) (fun hc1 => ?_) (fun hc1 => ?_)
  · have hc1 : (σ 103 75) ≠ 0 := hc1
    refine jw_W_n 2 (i' := 7) (ls' := [some (.inr (.inr 103)), none]) (st' := [.inr (.inr 103), .inr (.inr 103)]) rfl ?_
    refine jw_W_gf rfl rfl rfl ?_
    show jw_W (js_S n) _ md_332 8 [some (.inr (.inr 103)), none] [.inr (.inr 144), .inr (.inr 103)] σ _
    refine jw_W_n 1 (i' := 9) (ls' := [some (.inr (.inr 103)), none]) (st' := [.inl 0, .inr (.inr 144), .inr (.inr 103)]) rfl ?_
    refine jw_W_ia rfl rfl (by omega) (by omega) (by omega) ?_
    show jw_W (js_S n) _ md_332 10 [some (.inr (.inr 103)), none] [.inl (σ 144 0), .inr (.inr 103)] σ _
    refine jw_W_pf (a := σ 144 0) rfl (by omega) rfl rfl rfl rfl rfl ?_
    refine jw_W_n 2 (i' := 13) (ls' := [some (.inr (.inr 103)), none]) (st' := [.inr (.inr 103), .inr (.inr 103)]) rfl ?_
    refine jw_W_gf rfl rfl rfl ?_
    show jw_W (js_S n) _ md_332 14 [some (.inr (.inr 103)), none] [.inr (.inr 144), .inr (.inr 103)] ((jw_up σ 103 3 (σ 144 0))) _
    refine jw_W_n 1 (i' := 15) (ls' := [some (.inr (.inr 103)), none]) (st' := [.inl 1, .inr (.inr 144), .inr (.inr 103)]) rfl ?_
    refine jw_W_ia rfl rfl (by omega) (by omega) (by omega) ?_
    show jw_W (js_S n) _ md_332 16 [some (.inr (.inr 103)), none] [.inl (σ 144 1), .inr (.inr 103)] ((jw_up σ 103 3 (σ 144 0))) _
    refine jw_W_pf (a := σ 144 1) rfl (by omega) rfl rfl rfl rfl rfl ?_
    refine jw_W_n 2 (i' := 19) (ls' := [some (.inr (.inr 103)), none]) (st' := [.inr (.inr 103), .inr (.inr 103)]) rfl ?_
    refine jw_W_gf rfl rfl rfl ?_
    show jw_W (js_S n) _ md_332 20 [some (.inr (.inr 103)), none] [.inr (.inr 144), .inr (.inr 103)] ((jw_up (jw_up σ 103 3 (σ 144 0)) 103 4 (σ 144 1))) _
    refine jw_W_n 1 (i' := 21) (ls' := [some (.inr (.inr 103)), none]) (st' := [.inl 2, .inr (.inr 144), .inr (.inr 103)]) rfl ?_
    refine jw_W_ia rfl rfl (by omega) (by omega) (by omega) ?_
    show jw_W (js_S n) _ md_332 22 [some (.inr (.inr 103)), none] [.inl (σ 144 2), .inr (.inr 103)] ((jw_up (jw_up σ 103 3 (σ 144 0)) 103 4 (σ 144 1))) _
    refine jw_W_pf (a := σ 144 2) rfl (by omega) rfl rfl rfl rfl rfl ?_
    refine jw_W_n 2 (i' := 25) (ls' := [some (.inr (.inr 103)), some (.inl 0)]) (st' := []) rfl ?_
    obtain ⟨hk1, hk2⟩ := hk.resolve_left (by omega)
    refine jn_undo_a (fun σa Ha => ?_) 9 (i := 0) (by omega) (by omega) (by
      refine ⟨⟨fun o o1 => ?_, fun j hj => ?_⟩, ⟨rfl, rfl, rfl⟩, fun j j0 j1 => by omega, fun j j0 j1 => by omega, fun j j0 j1 => by omega⟩
      · rw [jw_up_out _ _ _ (by omega), jw_up_out _ _ _ (by omega), jw_up_out _ _ _ (by omega)]
      · rw [jw_up_ne _ (by omega), jw_up_ne _ (by omega), jw_up_ne _ (by omega)])
    refine jw_W_n 2 (i' := 42) (ls' := [some (.inr (.inr 103)), some (.inl 0)]) (st' := []) rfl ?_
    refine jn_undo_b (fun σb Hb => ?_) 20 (i := 0) (by omega) (by omega) Ha
    refine jw_W_n 2 (i' := 59) (ls' := [some (.inr (.inr 103)), some (.inl 0)]) (st' := []) rfl ?_
    refine jn_undo_c (fun σc Hc => ?_) 3 (i := 0) (by omega) (by omega) Hb
    have hPu := jn_ur_Pb Hc hk2
    refine jw_W_n 1 (i' := 75) (ls' := [some (.inr (.inr 103)), some (.inl 3)]) (st' := [.inr (.inr 103)]) rfl ?_
    refine jw_W_call (as := [.inr (.inr 103)]) (rest := []) rfl rfl rfl rfl (Nat.le_of_ble_eq_true rfl) (.inr rfl) (jn_knows hPu (jn_ur_Ns Hc hN)) (by omega) ?_ rfl
    rintro r1 σ9 ⟨rfl, hkf, C, hKN⟩
    show jw_W (js_S n) _ md_332 76 [some (.inr (.inr 103)), some (.inl 3)] [] σ9 _
    refine jw_W_n 1 (i' := 77) (ls' := [some (.inr (.inr 103)), some (.inl 3)]) (st' := [.inl 1]) rfl ?_
    refine jw_W_ir rfl ?_
    exact .inr ⟨rfl, hk1, σc, Hc, hkf, C, hKN⟩
  · have hc1 : (σ 103 75) = 0 := Classical.not_not.mp hc1
    refine jw_W_n 1 (i' := 4) (ls' := [some (.inr (.inr 103)), none]) (st' := [.inl 0]) rfl ?_
    refine jw_W_ir rfl ?_
    exact .inl ⟨rfl, rfl, by omega⟩

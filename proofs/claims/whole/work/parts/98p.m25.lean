/-! ===== the reference: all is known ===== -/
/-- pairs before this one -/
def jm_dn (i j a c : Int) : Prop := (a < c ∧ (a < i ∨ (a = i ∧ c < j))) ∨ (c < a ∧ (c < i ∨ (c = i ∧ a < j)))
def jm_el (σ : jw_H) (o : Nat) (C : List (ge_R × Int)) (P : ge_R → ge_R → Prop) (i j : Int) : Prop := ∀ a c, 0 ≤ a → a < (C.length : Int) → 0 ≤ c → (jm_nx σ o a c ↔ jm_dn i j a c ∧ ∃ x y, C[a.toNat]? = some x ∧ C[c.toNat]? = some y ∧ P x.1 y.1)
theorem jm_el_s {σ σ' : jw_H} {o : Nat} {C : List (ge_R × Int)} {P : ge_R → ge_R → Prop} {i j : Int} {x y : ge_R × Int} (hs : ∀ p q, P p q → P q p) (h : jm_el σ o C P i j) (ij : i < j) (hx : C[i.toNat]? = some x) (hy : C[j.toNat]? = some y) (ha : jm_add σ σ' o i j (P x.1 y.1)) : jm_el σ' o C P i (j + 1) := by
  intro a c a0 a1 c0
  rw [ha a c a0 c0, h a c a0 a1 c0]
  constructor
  · rintro (⟨h1, h2⟩ | ⟨h1, ⟨rfl, rfl⟩ | ⟨rfl, rfl⟩⟩)
    · exact ⟨by unfold jm_dn at *; omega, h2⟩
    · exact ⟨by unfold jm_dn; omega, x, y, hx, hy, h1⟩
    · exact ⟨by unfold jm_dn; omega, y, x, hy, hx, hs _ _ h1⟩
  · rintro ⟨h1, u, v, hu, hv, h2⟩
    by_cases e : a = i ∧ c = j
    · obtain ⟨rfl, rfl⟩ := e
      rw [hx] at hu
      rw [hy] at hv
      cases hu
      cases hv
      exact .inr ⟨h2, .inl ⟨rfl, rfl⟩⟩
    · by_cases e2 : a = j ∧ c = i
      · obtain ⟨rfl, rfl⟩ := e2
        rw [hy] at hu
        rw [hx] at hv
        cases hu
        cases hv
        exact .inr ⟨hs _ _ h2, .inr ⟨rfl, rfl⟩⟩
      · exact .inl ⟨by unfold jm_dn at *; omega, u, v, hu, hv, h2⟩
theorem jm_el_row {σ : jw_H} {o : Nat} {C : List (ge_R × Int)} {P : ge_R → ge_R → Prop} {i : Int} (h : jm_el σ o C P i C.length) : jm_el σ o C P (i + 1) (i + 1 + 1) := by
  intro a c a0 a1 c0
  rw [h a c a0 a1 c0]
  have hc : ∀ y : ge_R × Int, C[c.toNat]? = some y → c < (C.length : Int) := fun y hy => by
    have := (List.getElem?_eq_some_iff.mp hy).1
    omega
  constructor
  · rintro ⟨h1, u, v, hu, hv, h2⟩
    have := hc v hv
    exact ⟨by unfold jm_dn at *; omega, u, v, hu, hv, h2⟩
  · rintro ⟨h1, u, v, hu, hv, h2⟩
    have := hc v hv
    exact ⟨by unfold jm_dn at *; omega, u, v, hu, hv, h2⟩
theorem jm_el_0 {σ : jw_H} {o : Nat} {C : List (ge_R × Int)} {P : ge_R → ge_R → Prop} (h : ∀ a, 0 ≤ a → a < (C.length : Int) → σ o a = 0) : jm_el σ o C P 0 (0 + 1) := by
  intro a c a0 a1 c0
  constructor
  · intro h1
    unfold jm_nx jb_in at h1
    rw [h a a0 a1] at h1
    simp at h1
  · rintro ⟨h1, -⟩
    unfold jm_dn at h1
    omega
theorem ge_ed_sym {R : List ge_R} {p q : ge_R} (h : ge_ed R p q) : ge_ed R q p := by
  obtain ⟨r, hr, t, ht, h1, h2, h3, h4, h5⟩ := h
  exact ⟨r, hr, t, ht, h2, h1, h4, h3, h5⟩
theorem jm_two_c (x y : ge_R) : jm_two x y = jm_two y x := by
  simp only [jm_two, Int.add_comm]
/-- an edge; one that is efficient -/
def jm_E1 (σ : jw_H) (x y : ge_R) : Prop := ge_ed (jm_R σ) x y
def jm_E2 (σ : jw_H) (x y : ge_R) : Prop := ge_ed (jm_R σ) x y ∧ ¬ jm_Ef σ (jm_two x y)
def jm_k2 (σ0 : jw_H) (C : List (ge_R × Int)) (σ : jw_H) (i j : Int) : Prop := jm_ks C.length σ0 σ ∧ jm_gd σ 57 C C.length (fun p => ¬ jm_Ef σ0 p) ∧ jm_gd σ 58 C C.length (fun p => jm_Wk σ0 p) ∧ jm_el σ 137 C (jm_E1 σ0) i j ∧ jm_el σ 138 C (jm_E2 σ0) i j
theorem jm_k2_s {σ0 σ σ' : jw_H} {C : List (ge_R × Int)} {i j : Int} {x y : ge_R × Int} (h : jm_k2 σ0 C σ i j) (ij : i < j) (hx : C[i.toNat]? = some x) (hy : C[j.toNat]? = some y) (hr : jm_ks C.length σ0 σ' ∧ jm_add σ σ' 137 i j (ge_ed (jm_R σ0) x.1 y.1) ∧ jm_add σ σ' 138 i j (ge_ed (jm_R σ0) x.1 y.1 ∧ ¬ jm_Ef σ0 (jm_two x.1 y.1)) ∧ σ' 103 57 = σ 103 57 ∧ σ' 103 58 = σ 103 58 ∧ σ' 103 59 = σ 103 59) : jm_k2 σ0 C σ' i (j + 1) := by
  obtain ⟨h1, h2, h3, h4, h5⟩ := h
  obtain ⟨r1, r2, r3, r4, r5, -⟩ := hr
  exact ⟨r1, jm_gd_same r4 h2, jm_gd_same r5 h3, jm_el_s (fun p q h => ge_ed_sym h) h4 ij hx hy r2, jm_el_s (fun p q h => ⟨ge_ed_sym h.1, by rw [jm_two_c]; exact h.2⟩) h5 ij hx hy r3⟩
theorem jm_k2_row {σ0 σ : jw_H} {C : List (ge_R × Int)} {i : Int} (h : jm_k2 σ0 C σ i C.length) : jm_k2 σ0 C σ (i + 1) (i + 1 + 1) := ⟨h.1, h.2.1, h.2.2.1, jm_el_row h.2.2.2.1, jm_el_row h.2.2.2.2⟩
theorem jm_k2_0 {σ0 σ : jw_H} {C : List (ge_R × Int)} (h : jm_k1 σ0 C σ C.length C.length C.length) : jm_k2 σ0 C σ 0 (0 + 1) := by
  obtain ⟨h1, h2, h3, h4, h5, h6⟩ := h
  refine ⟨⟨h1, h2, h3, fun a a0 a1 => ?_, fun a a0 a1 => ?_⟩, h5, h6, jm_el_0 (fun a a0 a1 => (h4 a a0 a1).1), jm_el_0 (fun a a0 a1 => (h4 a a0 a1).2)⟩
  · rw [(h4 a a0 a1).1]
    omega
  · rw [(h4 a a0 a1).2]
    omega
theorem jm_lv_fk {σ0 σ : jw_H} (a : jm_fk σ0 σ) : ∀ (t : Nat) (i : Int), jm_lv σ t i ↔ jm_lv σ0 t i
  | 0, i => by
    unfold jm_lv
    rw [a.2 56 (by omega) (by omega) (by omega) (by omega)]
  | t + 1, i => by
    have ih := jm_lv_fk a t
    unfold jm_lv jm_ab'
    simp only [ih, jm_fk_F a, (jm_fk_ct a _).1]
theorem jm_k0_cbd {σ0 : jw_H} {C : List (ge_R × Int)} (h : jm_k0 σ0 C) : C.length ≤ 20 ∧ ∀ σ, jm_fk σ0 σ → jm_cbd σ := by
  obtain ⟨hP, hK, -⟩ := h
  have hl := jm_kn_len hP hK.2.1
  refine ⟨hl, fun σ a => ?_⟩
  have hK' := jm_fk_kn a hK
  have hP' := jm_fk_Pb a hP
  refine ⟨by rw [hK'.1.1]; omega, fun i i0 i1 => ?_⟩
  rw [hK'.1.1] at i1
  have hx := List.getElem?_eq_getElem (show i.toNat < C.length by omega)
  have e := (hK'.1.2 _ _ hx).1
  rw [Int.toNat_of_nonneg i0] at e
  have b := jm_kn_bd hP hK _ (List.getElem_mem (show i.toNat < C.length by omega))
  rw [e]
  exact ⟨b.1, b.2.1⟩
theorem jm_knows_j {n : Nat} {σ0 : jw_H} {D : Nat} {C : List (ge_R × Int)} {i : Int} {x : ge_R × Int} {Q : Option jw_V → jw_H → Prop} (hD : 7 ≤ D) (hK : jm_k0 σ0 C) (i0 : 0 ≤ i) (hx : C[i.toNat]? = some x) (hQ : ∀ σ', jm_k2 σ0 C σ' i C.length → jw_W (js_S n) D md_258 89 [some (.inr (.inr 103)), some (.inl i), some (.inl ((C.length : Int)))] [] σ' Q) : ∀ (f : Nat) {σ : jw_H} {j : Int}, i < j → j + f = (C.length : Int) → jm_k2 σ0 C σ i j → jw_W (js_S n) D md_258 79 [some (.inr (.inr 103)), some (.inl i), some (.inl j)] [] σ Q
  | f, σ, j, ij, hk, H => by
    have ih : ∀ {σ' : jw_H}, j < (C.length : Int) → jm_k2 σ0 C σ' i (j + 1) → jw_W (js_S n) D md_258 79 [some (.inr (.inr 103)), some (.inl i), some (.inl (j + 1))] [] σ' Q := by
      intro σ' h1 h2
      match f, hk with
      | 0, hk => omega
      | f + 1, hk => exact jm_knows_j hD hK i0 hx hQ f (by omega) (by omega) h2
    have e56 : σ 103 56 = (C.length : Int) := (H.1.1.2 56 (by omega) (by omega) (by omega) (by omega)).trans hK.2.1.1.1
    have hl := (jm_k0_cbd hK).1
    refine jw_W_n 2 (i' := 81) (ls' := [some (.inr (.inr 103)), some (.inl i), some (.inl j)]) (st' := [.inr (.inr 103), .inl j]) rfl ?_
    refine jw_W_gf rfl rfl rfl ?_
    show jw_W (js_S n) _ md_258 82 [some (.inr (.inr 103)), some (.inl i), some (.inl j)] [.inl (σ 103 56), .inl j] σ _
    refine jw_W_ic rfl (by unfold jw_rg; omega) (by unfold jw_rg; omega) (fun hc1 => ?_) (fun hc1 => ?_)
    · have hc1 : j ≥ (σ 103 56) := hc1
      have hkl : j = (C.length : Int) := by omega
      subst hkl
      exact hQ σ H
    · have hc1 : ¬ (j ≥ (σ 103 56)) := hc1
      obtain ⟨y, hy⟩ : ∃ y, C[j.toNat]? = some y := ⟨_, List.getElem?_eq_getElem (show j.toNat < C.length by omega)⟩
      refine jw_W_n 3 (i' := 86) (ls' := [some (.inr (.inr 103)), some (.inl i), some (.inl j)]) (st' := [.inl j, .inl i, .inr (.inr 103)]) rfl ?_
      refine jw_W_call (as := [.inr (.inr 103), .inl i, .inl j]) (rest := []) rfl rfl rfl rfl (Nat.le_of_ble_eq_true rfl) (.inr rfl) (jm_knowsEdge (C := C) hK.1 hK.2.1 hK.2.2.1 hK.2.2.2.1 H.1 i0 (by omega) hx hy) (by omega) ?_ rfl
      rintro r1 σ1 ⟨rfl, hr⟩
      rename jw_H => σ3
      show jw_W (js_S n) _ md_258 87 [some (.inr (.inr 103)), some (.inl i), some (.inl j)] [] σ3 _
      refine jw_W_n 2 (i' := 79) (ls' := [some (.inr (.inr 103)), some (.inl i), some (.inl (j + 1))]) (st' := []) rfl ?_
      exact ih (by omega) (jm_k2_s H ij hx hy hr)
theorem jm_knows_2 {n : Nat} {σ0 : jw_H} {D : Nat} {C : List (ge_R × Int)} {Q : Option jw_V → jw_H → Prop} (hD : 7 ≤ D) (hK : jm_k0 σ0 C) (hQ : ∀ σ' v, jm_k2 σ0 C σ' C.length (C.length + 1) → jw_W (js_S n) D md_258 91 [some (.inr (.inr 103)), some (.inl ((C.length : Int))), v] [] σ' Q) : ∀ (f : Nat) {σ : jw_H} {i : Int} {v : Option jw_V}, 0 ≤ i → i + f = (C.length : Int) → jm_k2 σ0 C σ i (i + 1) → jw_W (js_S n) D md_258 71 [some (.inr (.inr 103)), some (.inl i), v] [] σ Q
  | f, σ, i, v, i0, hk, H => by
    have ih : ∀ {σ' : jw_H} {v' : Option jw_V}, i < (C.length : Int) → jm_k2 σ0 C σ' (i + 1) (i + 1 + 1) → jw_W (js_S n) D md_258 71 [some (.inr (.inr 103)), some (.inl (i + 1)), v'] [] σ' Q := by
      intro σ' v' h1 h2
      match f, hk with
      | 0, hk => omega
      | f + 1, hk => exact jm_knows_2 hD hK hQ f (by omega) (by omega) h2
    have e56 : σ 103 56 = (C.length : Int) := (H.1.1.2 56 (by omega) (by omega) (by omega) (by omega)).trans hK.2.1.1.1
    have hl := (jm_k0_cbd hK).1
    refine jw_W_n 2 (i' := 73) (ls' := [some (.inr (.inr 103)), some (.inl i), v]) (st' := [.inr (.inr 103), .inl i]) rfl ?_
    refine jw_W_gf rfl rfl rfl ?_
    show jw_W (js_S n) _ md_258 74 [some (.inr (.inr 103)), some (.inl i), v] [.inl (σ 103 56), .inl i] σ _
    refine jw_W_ic rfl (by unfold jw_rg; omega) (by unfold jw_rg; omega) (fun hc1 => ?_) (fun hc1 => ?_)
    · have hc1 : i ≥ (σ 103 56) := hc1
      have hkl : i = (C.length : Int) := by omega
      subst hkl
      exact hQ σ v H
    · have hc1 : ¬ (i ≥ (σ 103 56)) := hc1
      obtain ⟨x, hx⟩ : ∃ x, C[i.toNat]? = some x := ⟨_, List.getElem?_eq_getElem (show i.toNat < C.length by omega)⟩
      refine jw_W_n 4 (i' := 79) (ls' := [some (.inr (.inr 103)), some (.inl i), some (.inl (i + 1))]) (st' := []) rfl ?_
      refine jm_knows_j hD hK i0 hx (fun σ3 H3 => ?_) ((C.length : Int) - (i + 1)).toNat (j := i + 1) (by omega) (by omega) H
      refine jw_W_n 2 (i' := 71) (ls' := [some (.inr (.inr 103)), some (.inl (i + 1)), some (.inl ((C.length : Int)))]) (st' := []) rfl ?_
      exact ih (by omega) (jm_k2_row H3)
/-- all is known of these corners -/
def jm_kd (σ0 : jw_H) (C : List (ge_R × Int)) (σ : jw_H) : Prop := ∃ σ1 t, jm_k2 σ0 C σ1 C.length (C.length + 1) ∧ jm_lr σ1 t σ ∧ (∀ a, ¬ jm_lv σ1 t a)
theorem jm_k1_0 {σ : jw_H} {C : List (ge_R × Int)} (h : jm_k0 σ C) : jm_k1 σ C (jw_up (jw_up σ 103 57 0) 103 58 0) 0 0 0 := by
  obtain ⟨-, -, -, -, h1, h2⟩ := h
  have e : ∀ o, o ≠ 103 → jw_up (jw_up σ 103 57 0) 103 58 0 o = σ o := fun o ho => by
    rw [jw_up_out _ _ _ ho, jw_up_out _ _ _ ho]
  have z : ∀ (C : List (ge_R × Int)) (P : ge_R → Prop) (f : Int), jw_up (jw_up σ 103 57 0) 103 58 0 103 f = 0 → jm_gd (jw_up (jw_up σ 103 57 0) 103 58 0) f C 0 P := fun C P f hf => by
    unfold jm_gd
    rw [hf]
    refine ⟨by omega, fun a a0 => ?_⟩
    constructor
    · intro h
      unfold jb_in at h
      simp at h
    · rintro ⟨h, -⟩
      omega
  refine ⟨jm_fk_up (jm_fk_up (jm_fk_rf σ) (by omega)) (by omega), ?_, ?_, fun a a0 a1 => by omega, z _ _ _ ?_, z _ _ _ (jw_up_eq _ _ _ _)⟩
  · unfold jm_Ns
    rw [e 131 (by omega)]
    exact h1
  · unfold jm_nrm jm_N
    rw [e 131 (by omega)]
    exact h2
  · rw [jw_up_ne _ (by omega), jw_up_eq]
theorem jm_knows {n : Nat} {σ : jw_H} (hP : jm_Pb σ) (hN : jm_Ns σ) : jw_T (js_S n) 8 258 [.inr (.inr 103)] σ (fun r σ' => r = none ∧ ∃ σ0 C σ1, jm_lb σ (-1) (-1) σ1 (σ 103 5) ∧ jm_fr3 σ1 σ0 ∧ jm_k0 σ0 C ∧ jm_kd σ0 C σ') := by
  refine jw_T_of (D := 7) (M := mm_258) rfl (Nat.le_of_ble_eq_true rfl) (ls0 := [some (.inr (.inr 103)), none, none]) rfl ?_ (by rintro _ _ ⟨rfl, -⟩; rfl)
  refine jw_W_n 3 (i' := 3) (ls' := [some (.inr (.inr 103)), none, none]) (st' := [.inl ((-1)), .inl ((-1)), .inr (.inr 103)]) rfl ?_
  refine jw_W_call (as := [.inr (.inr 103), .inl ((-1)), .inl ((-1))]) (rest := []) rfl rfl rfl rfl (Nat.le_of_ble_eq_true rfl) (.inr rfl) (jm_laysBody hP hN (by unfold jw_rg; omega) (by unfold jw_rg; omega)) (by omega) ?_ rfl
  rintro r1 σ1 ⟨rfl, hlb⟩
  rename jw_H => σ3
  obtain ⟨L, hI, hll, hLb, hLp, hcont⟩ := jm_lb_pre hP hlb
  show jw_W (js_S n) _ md_258 4 [some (.inr (.inr 103)), none, none] [] σ3 _
  refine jw_W_n 1 (i' := 5) (ls' := [some (.inr (.inr 103)), none, none]) (st' := [.inr (.inr 103)]) rfl ?_
  refine jw_W_call (as := [.inr (.inr 103)]) (rest := []) rfl rfl rfl rfl (Nat.le_of_ble_eq_true rfl) (.inr rfl) (jm_takesCorners (X := 1458) hI (by omega) hLb (by omega) hLp) (by omega) ?_ rfl
  rintro r1 σ1 ⟨rfl, hf3, hcor⟩
  rename jw_H => σ2
  have hK := hcont σ2 hf3 hcor
  generalize ge_srt L = C at *
  have hcl := (jm_k0_cbd hK).1
  show jw_W (js_S n) _ md_258 6 [some (.inr (.inr 103)), none, none] [] σ2 _
  refine jw_W_n 2 (i' := 8) (ls' := [some (.inr (.inr 103)), none, none]) (st' := [.inl 0, .inr (.inr 103)]) rfl ?_
  refine jw_W_pf (a := 0) rfl (by omega) rfl rfl rfl rfl rfl ?_
  refine jw_W_n 2 (i' := 11) (ls' := [some (.inr (.inr 103)), none, none]) (st' := [.inl 0, .inr (.inr 103)]) rfl ?_
  refine jw_W_pf (a := 0) rfl (by omega) rfl rfl rfl rfl rfl ?_
  refine jw_W_n 2 (i' := 14) (ls' := [some (.inr (.inr 103)), some (.inl 0), none]) (st' := []) rfl ?_
  have hF0 : jm_fk σ2 (jw_up (jw_up σ2 103 57 0) 103 58 0) := jm_fk_up (jm_fk_up (jm_fk_rf σ2) (by omega)) (by omega)
  refine jm_knows_1 (D := 7) (by omega) hK hcl (fun σ4 v' H1 => ?_) C.length (i := 0) (by omega) (by omega) (jm_k1_0 hK)
  refine jw_W_n 2 (i' := 71) (ls' := [some (.inr (.inr 103)), some (.inl 0), v']) (st' := []) rfl ?_
  refine jm_knows_2 (D := 7) (by omega) hK (fun σ5 v' H2 => ?_) C.length (i := 0) (by omega) (by omega) (jm_k2_0 H1)
  refine jw_W_n 1 (i' := 92) (ls' := [some (.inr (.inr 103)), some (.inl ((C.length : Int))), v']) (st' := [.inr (.inr 103)]) rfl ?_
  refine jw_W_call (as := [.inr (.inr 103)]) (rest := []) rfl rfl rfl rfl (Nat.le_of_ble_eq_true rfl) (.inr rfl) (jm_laysLayers (jm_fk_Pb H2.1.1 hK.1) ((jm_k0_cbd hK).2 _ H2.1.1)) (by omega) ?_ rfl
  rintro r1 σ1 ⟨rfl, t, hl1, hl2⟩
  rename jw_H => σ1
  show jw_W (js_S n) _ md_258 93 [some (.inr (.inr 103)), some (.inl ((C.length : Int))), v'] [] σ1 _
  refine jw_W_re rfl ?_
  exact ⟨rfl, σ2, C, σ3, hlb, hf3, hK, _, t, H2, hl1, hl2⟩

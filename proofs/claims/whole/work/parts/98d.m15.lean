/-! ===== the reference's body of corners, so many times as great ===== -/
def ge_s4 (T : Int) (p : ge_R) : ge_R := (T * p.1, T * p.2.1, T * p.2.2.1, p.2.2.2)
def jm_big (T : Int) (C : List (ge_R × Int)) : List (ge_R × Int) := C.map (fun x => (ge_pp (ge_s4 T x.1), x.2))
def jm_lc (σ0 : jw_H) (T : Int) (C : List (ge_R × Int)) (σ : jw_H) (k : Int) : Prop := jm_fr σ0 σ ∧ σ 103 46 = (C.length : Int) ∧ ∀ (i : Nat) (x : ge_R × Int), C[i]? = some x → (i : Int) < k → jm_pt σ (i : Int) = ge_pp (ge_s4 T x.1) ∧ σ 130 (i : Int) = x.2
theorem jm_lc_s {σ0 σ : jw_H} {T : Int} {C : List (ge_R × Int)} {k : Int} {x : ge_R × Int} (H : jm_lc σ0 T C σ k) (k0 : 0 ≤ k) (hx : C[k.toNat]? = some x) : jm_lc σ0 T C (jm_lpp σ k (ge_pp (ge_s4 T x.1)) x.2) (k + 1) := by
  obtain ⟨a1, a2, a3⟩ := H
  refine ⟨jm_fr_lpp a1, by rw [jm_o_lpp _ _ _ _ (by omega)]; exact a2, fun i y hy hi => ?_⟩
  rw [jm_pt_lpp, jm_tt_lpp]
  by_cases h : (i : Int) = k
  · rw [if_pos h, if_pos h]
    have : i = k.toNat := by omega
    subst this
    rw [hx] at hy
    cases hy
    exact ⟨rfl, rfl⟩
  · rw [if_neg h, if_neg h]
    exact a3 i y hy (by omega)
theorem jm_lc1 {n : Nat} {σ0 : jw_H} {D : Nat} {T : Int} {Q : Option jw_V → jw_H → Prop} (hD : 1 ≤ D) (hP : jm_Pb σ0) (hQ : ∀ σ', jm_nl σ0 σ' (σ0 103 5 + 2 * σ0 103 3) → jw_W (js_S n) D md_246 27 [some (.inr (.inr 103)), some (.inr (.inl T)), none, some (.inl (σ0 103 5 + 2 * σ0 103 3))] [] σ' Q) : ∀ (m : Nat) {σ : jw_H} {k : Int}, 0 ≤ k → k + m = σ0 103 5 + 2 * σ0 103 3 → jm_nl σ0 σ k → jw_W (js_S n) D md_246 6 [some (.inr (.inr 103)), some (.inr (.inl T)), none, some (.inl k)] [] σ Q
  | m, σ, k, k0, hk, hI => by
    have ih : ∀ {σ' : jw_H}, k < σ0 103 5 + 2 * σ0 103 3 → jm_nl σ0 σ' (k + 1) → jw_W (js_S n) D md_246 6 [some (.inr (.inr 103)), some (.inr (.inl T)), none, some (.inl (k + 1))] [] σ' Q := by
      intro σ' h1 h2
      match m, hk with
      | 0, hk => omega
      | m + 1, hk => exact jm_lc1 hD hP hQ m (by omega) (by omega) h2
    have hP1 : jm_Pb σ := jm_Pb_fr (fun j _ => by rw [hI.1 103 (by decide)]) (hI.1 104 (by decide)) (hI.1 105 (by decide)) (hI.1 106 (by decide)) hP
    have e3 : σ 103 3 = σ0 103 3 := by rw [hI.1 103 (by decide)]
    have e5 : σ 103 5 = σ0 103 5 := by rw [hI.1 103 (by decide)]
    have hPq := hP.1
    have hPk := hP.2.2.1
    refine jw_W_n 2 (i' := 8) (ls' := [some (.inr (.inr 103)), some (.inr (.inl T)), none, some (.inl k)]) (st' := [.inr (.inr 103), .inl k]) rfl ?_
    refine jw_W_call (as := [.inr (.inr 103)]) (rest := [.inl k]) rfl rfl rfl rfl (Nat.le_of_ble_eq_true rfl) (.inr rfl) (jm_planes hP1) (by omega) ?_ rfl
    rintro r1 σ1 ⟨rfl, hs⟩
    rw [hs]
    show jw_W (js_S n) _ md_246 9 [some (.inr (.inr 103)), some (.inr (.inl T)), none, some (.inl k)] [.inl (σ 103 5 + 2 * σ 103 3), .inl k] σ _
    refine jw_W_ic rfl (by unfold jw_rg; omega) (by unfold jw_rg; omega) (fun hc1 => ?_) (fun hc1 => ?_)
    · have hc1 : k ≥ (σ 103 5 + 2 * σ 103 3) := hc1
      have hkl : k = σ0 103 5 + 2 * σ0 103 3 := by omega
      subst hkl
      exact hQ σ hI
    · have hc1 : ¬ (k ≥ (σ 103 5 + 2 * σ 103 3)) := hc1
      refine jw_W_n 5 (i' := 15) (ls' := [some (.inr (.inr 103)), some (.inr (.inl T)), none, some (.inl k)]) (st' := [.inl 0, .inl k, .inr (.inr 103), .inl k, .inr (.inr 103)]) rfl ?_
      refine jw_W_call (as := [.inr (.inr 103), .inl k, .inl 0]) (rest := [.inl k, .inr (.inr 103)]) rfl rfl rfl rfl (Nat.le_of_ble_eq_true rfl) (.inr rfl) (jm_planeOf hP1 (by omega) (by omega) (by omega) (by omega)) (by omega) ?_ rfl
      rintro r1 σ1 ⟨rfl, hs⟩
      rw [hs]
      show jw_W (js_S n) _ md_246 16 [some (.inr (.inr 103)), some (.inr (.inl T)), none, some (.inl k)] [.inl (jm_pf σ k 0), .inl k, .inr (.inr 103)] σ _
      refine jw_W_n 3 (i' := 19) (ls' := [some (.inr (.inr 103)), some (.inr (.inl T)), none, some (.inl k)]) (st' := [.inl 1, .inl k, .inr (.inr 103), .inl (jm_pf σ k 0), .inl k, .inr (.inr 103)]) rfl ?_
      refine jw_W_call (as := [.inr (.inr 103), .inl k, .inl 1]) (rest := [.inl (jm_pf σ k 0), .inl k, .inr (.inr 103)]) rfl rfl rfl rfl (Nat.le_of_ble_eq_true rfl) (.inr rfl) (jm_planeOf hP1 (by omega) (by omega) (by omega) (by omega)) (by omega) ?_ rfl
      rintro r1 σ1 ⟨rfl, hs⟩
      rw [hs]
      show jw_W (js_S n) _ md_246 20 [some (.inr (.inr 103)), some (.inr (.inl T)), none, some (.inl k)] [.inl (jm_pf σ k 1), .inl (jm_pf σ k 0), .inl k, .inr (.inr 103)] σ _
      refine jw_W_n 3 (i' := 23) (ls' := [some (.inr (.inr 103)), some (.inr (.inl T)), none, some (.inl k)]) (st' := [.inl 2, .inl k, .inr (.inr 103), .inl (jm_pf σ k 1), .inl (jm_pf σ k 0), .inl k, .inr (.inr 103)]) rfl ?_
      refine jw_W_call (as := [.inr (.inr 103), .inl k, .inl 2]) (rest := [.inl (jm_pf σ k 1), .inl (jm_pf σ k 0), .inl k, .inr (.inr 103)]) rfl rfl rfl rfl (Nat.le_of_ble_eq_true rfl) (.inr rfl) (jm_planeOf hP1 (by omega) (by omega) (by omega) (by omega)) (by omega) ?_ rfl
      rintro r1 σ1 ⟨rfl, hs⟩
      rw [hs]
      show jw_W (js_S n) _ md_246 24 [some (.inr (.inr 103)), some (.inr (.inl T)), none, some (.inl k)] [.inl (jm_pf σ k 2), .inl (jm_pf σ k 1), .inl (jm_pf σ k 0), .inl k, .inr (.inr 103)] σ _
      refine jw_W_call (as := [.inr (.inr 103), .inl k, .inl (jm_pf σ k 0), .inl (jm_pf σ k 1), .inl (jm_pf σ k 2)]) (rest := []) rfl rfl rfl rfl (Nat.le_of_ble_eq_true rfl) (.inr rfl) (jm_laysNormal (by omega) (by omega)) (by omega) ?_ rfl
      rintro r1 σ1 ⟨rfl, rfl⟩
      show jw_W (js_S n) _ md_246 25 [some (.inr (.inr 103)), some (.inr (.inl T)), none, some (.inl k)] [] ((jm_ln σ k (jm_pf σ k 0) (jm_pf σ k 1) (jm_pf σ k 2))) _
      refine jw_W_n 2 (i' := 6) (ls' := [some (.inr (.inr 103)), some (.inr (.inl T)), none, some (.inl (k + 1))]) (st' := []) rfl ?_
      exact ih (by omega) (by rw [jm_pf_fr hI.1, jm_pf_fr hI.1, jm_pf_fr hI.1]; exact jm_nl_s hI hP k0)
theorem jm_lc2 {n : Nat} {σ0 : jw_H} {D : Nat} {T X : Int} {C : List (ge_R × Int)} {Q : Option jw_V → jw_H → Prop} (hD : 2 ≤ D) (hC : jm_cor σ0 C) (hl : C.length ≤ 32) (T0 : 0 < T) (hb : ∀ x ∈ C, jm_in4 X x.1) (hTX : T * X ≤ 9200000000000000000) (hX : X ≤ 9200000000000000000) (hQ : ∀ σ', jm_lc σ0 T C σ' (C.length : Int) → Q none σ') : ∀ (f : Nat) {σ : jw_H} {k : Int}, 0 ≤ k → k + f = (C.length : Int) → jm_lc σ0 T C σ k → jw_W (js_S n) D md_246 29 [some (.inr (.inr 103)), some (.inr (.inl T)), none, some (.inl k)] [] σ Q
  | f, σ, k, k0, hk, hI => by
    have ih : ∀ {σ' : jw_H}, k < (C.length : Int) → jm_lc σ0 T C σ' (k + 1) → jw_W (js_S n) D md_246 29 [some (.inr (.inr 103)), some (.inr (.inl T)), none, some (.inl (k + 1))] [] σ' Q := by
      intro σ' h1 h2
      match f, hk with
      | 0, hk => omega
      | f + 1, hk => exact jm_lc2 hD hC hl T0 hb hTX hX hQ f (by omega) (by omega) h2
    have hm : σ 103 56 = (C.length : Int) := (hI.1.2 56 (by omega)).trans hC.1
    have hct : ∀ (i : Nat) (x : ge_R × Int), C[i]? = some x → jm_ct σ (i : Int) = x.1 ∧ σ 136 (i : Int) = x.2 := fun i x hx => by
      obtain ⟨e1, e2⟩ := hC.2 i x hx
      rw [← e1, ← e2]
      simp only [jm_ct, hI.1.1 132 (by omega) (by omega), hI.1.1 133 (by omega) (by omega), hI.1.1 134 (by omega) (by omega), hI.1.1 135 (by omega) (by omega), hI.1.1 136 (by omega) (by omega)]
      exact ⟨trivial, trivial⟩
    have hx' : ∀ j : Int, 0 ≤ j → j < (C.length : Int) → ∃ y, C[j.toNat]? = some y ∧ y ∈ C := fun j j0 h => by
      have h3 : j.toNat < C.length := by omega
      exact ⟨C[j.toNat], List.getElem?_eq_getElem h3, List.getElem_mem h3⟩
    refine jw_W_n 2 (i' := 31) (ls' := [some (.inr (.inr 103)), some (.inr (.inl T)), none, some (.inl k)]) (st' := [.inr (.inr 103), .inl k]) rfl ?_
    refine jw_W_gf rfl rfl rfl ?_
    show jw_W (js_S n) _ md_246 32 [some (.inr (.inr 103)), some (.inr (.inl T)), none, some (.inl k)] [.inl (σ 103 56), .inl k] σ _
    rw [hm]
    refine jw_W_ic rfl (by unfold jw_rg; omega) (by unfold jw_rg; omega) (fun hc1 => ?_) (fun hc1 => ?_)
    · have hc1 : k ≥ ((C.length : Int)) := hc1
      refine jw_W_re rfl ?_
      have hkl : k = (C.length : Int) := by omega
      subst hkl
      exact hQ σ hI
    · have hc1 : ¬ (k ≥ ((C.length : Int))) := hc1
      obtain ⟨x, hx, hxm⟩ := hx' k k0 (by omega)
      obtain ⟨c1, c2⟩ := hct _ x hx
      rw [Int.toNat_of_nonneg k0] at c1 c2
      have p1 : σ 132 k = x.1.1 := congrArg (fun z : ge_R => z.1) c1
      have p2 : σ 133 k = x.1.2.1 := congrArg (fun z : ge_R => z.2.1) c1
      have p3 : σ 134 k = x.1.2.2.1 := congrArg (fun z : ge_R => z.2.2.1) c1
      have p4 : σ 135 k = x.1.2.2.2 := congrArg (fun z : ge_R => z.2.2.2) c1
      obtain ⟨bx, by1, bz, bw⟩ := hb x hxm
      have t1 := jm_ab (Int.le_of_lt T0) (Int.le_refl T) bx.1 bx.2
      have t2 := jm_ab (Int.le_of_lt T0) (Int.le_refl T) by1.1 by1.2
      have t3 := jm_ab (Int.le_of_lt T0) (Int.le_refl T) bz.1 bz.2
      refine jw_W_n 4 (i' := 37) (ls' := [some (.inr (.inr 103)), some (.inr (.inl T)), none, some (.inl k)]) (st' := [.inr (.inr 103), .inr (.inl T), .inl k, .inr (.inr 103)]) rfl ?_
      refine jw_W_gf rfl rfl rfl ?_
      show jw_W (js_S n) _ md_246 38 [some (.inr (.inr 103)), some (.inr (.inl T)), none, some (.inl k)] [.inr (.inr 132), .inr (.inl T), .inl k, .inr (.inr 103)] σ _
      refine jw_W_n 1 (i' := 39) (ls' := [some (.inr (.inr 103)), some (.inr (.inl T)), none, some (.inl k)]) (st' := [.inl k, .inr (.inr 132), .inr (.inl T), .inl k, .inr (.inr 103)]) rfl ?_
      refine jw_W_la rfl rfl (by omega) (by omega) (by omega) ?_
      show jw_W (js_S n) _ md_246 40 [some (.inr (.inr 103)), some (.inr (.inl T)), none, some (.inl k)] [.inr (.inl (σ 132 k)), .inr (.inl T), .inl k, .inr (.inr 103)] σ _
      rw [p1]
      refine jw_W_n 3 (i' := 43) (ls' := [some (.inr (.inr 103)), some (.inr (.inl T)), none, some (.inl k)]) (st' := [.inr (.inr 103), .inr (.inl T), .inr (.inl (T * x.1.1)), .inl k, .inr (.inr 103)]) rfl ?_
      refine jw_W_gf rfl rfl rfl ?_
      show jw_W (js_S n) _ md_246 44 [some (.inr (.inr 103)), some (.inr (.inl T)), none, some (.inl k)] [.inr (.inr 133), .inr (.inl T), .inr (.inl (T * x.1.1)), .inl k, .inr (.inr 103)] σ _
      refine jw_W_n 1 (i' := 45) (ls' := [some (.inr (.inr 103)), some (.inr (.inl T)), none, some (.inl k)]) (st' := [.inl k, .inr (.inr 133), .inr (.inl T), .inr (.inl (T * x.1.1)), .inl k, .inr (.inr 103)]) rfl ?_
      refine jw_W_la rfl rfl (by omega) (by omega) (by omega) ?_
      show jw_W (js_S n) _ md_246 46 [some (.inr (.inr 103)), some (.inr (.inl T)), none, some (.inl k)] [.inr (.inl (σ 133 k)), .inr (.inl T), .inr (.inl (T * x.1.1)), .inl k, .inr (.inr 103)] σ _
      rw [p2]
      refine jw_W_n 3 (i' := 49) (ls' := [some (.inr (.inr 103)), some (.inr (.inl T)), none, some (.inl k)]) (st' := [.inr (.inr 103), .inr (.inl T), .inr (.inl (T * x.1.2.1)), .inr (.inl (T * x.1.1)), .inl k, .inr (.inr 103)]) rfl ?_
      refine jw_W_gf rfl rfl rfl ?_
      show jw_W (js_S n) _ md_246 50 [some (.inr (.inr 103)), some (.inr (.inl T)), none, some (.inl k)] [.inr (.inr 134), .inr (.inl T), .inr (.inl (T * x.1.2.1)), .inr (.inl (T * x.1.1)), .inl k, .inr (.inr 103)] σ _
      refine jw_W_n 1 (i' := 51) (ls' := [some (.inr (.inr 103)), some (.inr (.inl T)), none, some (.inl k)]) (st' := [.inl k, .inr (.inr 134), .inr (.inl T), .inr (.inl (T * x.1.2.1)), .inr (.inl (T * x.1.1)), .inl k, .inr (.inr 103)]) rfl ?_
      refine jw_W_la rfl rfl (by omega) (by omega) (by omega) ?_
      show jw_W (js_S n) _ md_246 52 [some (.inr (.inr 103)), some (.inr (.inl T)), none, some (.inl k)] [.inr (.inl (σ 134 k)), .inr (.inl T), .inr (.inl (T * x.1.2.1)), .inr (.inl (T * x.1.1)), .inl k, .inr (.inr 103)] σ _
      rw [p3]
      refine jw_W_n 2 (i' := 54) (ls' := [some (.inr (.inr 103)), some (.inr (.inl T)), none, some (.inl k)]) (st' := [.inr (.inr 103), .inr (.inl (T * x.1.2.2.1)), .inr (.inl (T * x.1.2.1)), .inr (.inl (T * x.1.1)), .inl k, .inr (.inr 103)]) rfl ?_
      refine jw_W_gf rfl rfl rfl ?_
      show jw_W (js_S n) _ md_246 55 [some (.inr (.inr 103)), some (.inr (.inl T)), none, some (.inl k)] [.inr (.inr 135), .inr (.inl (T * x.1.2.2.1)), .inr (.inl (T * x.1.2.1)), .inr (.inl (T * x.1.1)), .inl k, .inr (.inr 103)] σ _
      refine jw_W_n 1 (i' := 56) (ls' := [some (.inr (.inr 103)), some (.inr (.inl T)), none, some (.inl k)]) (st' := [.inl k, .inr (.inr 135), .inr (.inl (T * x.1.2.2.1)), .inr (.inl (T * x.1.2.1)), .inr (.inl (T * x.1.1)), .inl k, .inr (.inr 103)]) rfl ?_
      refine jw_W_la rfl rfl (by omega) (by omega) (by omega) ?_
      show jw_W (js_S n) _ md_246 57 [some (.inr (.inr 103)), some (.inr (.inl T)), none, some (.inl k)] [.inr (.inl (σ 135 k)), .inr (.inl (T * x.1.2.2.1)), .inr (.inl (T * x.1.2.1)), .inr (.inl (T * x.1.1)), .inl k, .inr (.inr 103)] σ _
      rw [p4]
      refine jw_W_n 1 (i' := 58) (ls' := [some (.inr (.inr 103)), some (.inr (.inl T)), none, some (.inl k)]) (st' := [.inr (.inr 103), .inr (.inl x.1.2.2.2), .inr (.inl (T * x.1.2.2.1)), .inr (.inl (T * x.1.2.1)), .inr (.inl (T * x.1.1)), .inl k, .inr (.inr 103)]) rfl ?_
      refine jw_W_gf rfl rfl rfl ?_
      show jw_W (js_S n) _ md_246 59 [some (.inr (.inr 103)), some (.inr (.inl T)), none, some (.inl k)] [.inr (.inr 136), .inr (.inl x.1.2.2.2), .inr (.inl (T * x.1.2.2.1)), .inr (.inl (T * x.1.2.1)), .inr (.inl (T * x.1.1)), .inl k, .inr (.inr 103)] σ _
      refine jw_W_n 1 (i' := 60) (ls' := [some (.inr (.inr 103)), some (.inr (.inl T)), none, some (.inl k)]) (st' := [.inl k, .inr (.inr 136), .inr (.inl x.1.2.2.2), .inr (.inl (T * x.1.2.2.1)), .inr (.inl (T * x.1.2.1)), .inr (.inl (T * x.1.1)), .inl k, .inr (.inr 103)]) rfl ?_
      refine jw_W_ia rfl rfl (by omega) (by omega) (by omega) ?_
      show jw_W (js_S n) _ md_246 61 [some (.inr (.inr 103)), some (.inr (.inl T)), none, some (.inl k)] [.inl (σ 136 k), .inr (.inl x.1.2.2.2), .inr (.inl (T * x.1.2.2.1)), .inr (.inl (T * x.1.2.1)), .inr (.inl (T * x.1.1)), .inl k, .inr (.inr 103)] σ _
      rw [c2]
      refine jw_W_call (as := [.inr (.inr 103), .inl k, .inr (.inl (T * x.1.1)), .inr (.inl (T * x.1.2.1)), .inr (.inl (T * x.1.2.2.1)), .inr (.inl x.1.2.2.2), .inl x.2]) (rest := []) rfl rfl rfl rfl (Nat.le_of_ble_eq_true rfl) (.inr rfl) (jm_laysPoint2 k0 (by omega) (by unfold jm_bg; omega) (by unfold jm_bg; omega) (by unfold jm_bg; omega) (by omega) (by unfold jm_bg; omega)) (by omega) ?_ rfl
      rintro r1 σ1 ⟨rfl, hs⟩
      rw [hs]
      show jw_W (js_S n) _ md_246 62 [some (.inr (.inr 103)), some (.inr (.inl T)), none, some (.inl k)] [] ((jm_lpp σ k (ge_pp (ge_s4 T x.1)) x.2)) _
      refine jw_W_n 2 (i' := 29) (ls' := [some (.inr (.inr 103)), some (.inr (.inl T)), none, some (.inl (k + 1))]) (st' := []) rfl ?_
      exact ih (by omega) (jm_lc_s hI k0 hx)
theorem jm_laysCorners {n : Nat} {σ : jw_H} {T X : Int} {C : List (ge_R × Int)} (hP : jm_Pb σ) (hN : jm_Ns σ) (hC : jm_cor σ C) (hl : C.length ≤ 32) (T0 : 0 < T) (hb : ∀ x ∈ C, jm_in4 X x.1) (hTX : T * X ≤ 9200000000000000000) (hX : X ≤ 9200000000000000000) : jw_T (js_S n) 3 246 [.inr (.inr 103), .inr (.inl T)] σ (fun r σ' => r = none ∧ ∃ σ1, jm_nl (jw_up σ 103 46 (C.length : Int)) σ1 (σ 103 5 + 2 * σ 103 3) ∧ jm_lc σ1 T C σ' (C.length : Int)) := by
  refine jw_T_of (D := 2) (M := mm_246) rfl (Nat.le_of_ble_eq_true rfl) (ls0 := [some (.inr (.inr 103)), some (.inr (.inl T)), none, none]) rfl ?_ (by rintro _ _ ⟨rfl, -⟩; rfl)
  refine jw_W_n 2 (i' := 2) (ls' := [some (.inr (.inr 103)), some (.inr (.inl T)), none, none]) (st' := [.inr (.inr 103), .inr (.inr 103)]) rfl ?_
  refine jw_W_gf rfl rfl rfl ?_
  show jw_W (js_S n) _ md_246 3 [some (.inr (.inr 103)), some (.inr (.inl T)), none, none] [.inl (σ 103 56), .inr (.inr 103)] σ _
  rw [hC.1]
  refine jw_W_pf (a := (C.length : Int)) rfl (by omega) rfl rfl rfl rfl rfl ?_
  refine jw_W_n 2 (i' := 6) (ls' := [some (.inr (.inr 103)), some (.inr (.inl T)), none, some (.inl 0)]) (st' := []) rfl ?_
  have hF : jm_fr σ (jw_up σ 103 46 (C.length : Int)) := jm_fr_up (jm_fr_rf σ) (by omega)
  have hP1 := jm_fr2_Pb (jm_fr_2 hF) hP
  have hN1 := (jm_fr_N hF).2.2.1 hN
  have f3 : jw_up σ 103 46 (C.length : Int) 103 3 = σ 103 3 := hF.2 3 (by omega)
  have f5 : jw_up σ 103 46 (C.length : Int) 103 5 = σ 103 5 := hF.2 5 (by omega)
  have q1 := hP.1
  have k1 := hP.2.2.1
  refine jm_lc1 (D := 2) (by omega) hP1 (fun σ1 h1 => ?_) (σ 103 5 + 2 * σ 103 3).toNat (k := 0) (by omega) (by rw [f3, f5]; omega) ⟨fun _ _ => rfl, hN1, fun i i0 i1 => by omega⟩
  refine jw_W_n 2 (i' := 29) (ls' := [some (.inr (.inr 103)), some (.inr (.inl T)), none, some (.inl 0)]) (st' := []) rfl ?_
  rw [f3, f5] at h1
  have hC1 : jm_cor σ1 C := by
    refine ⟨by rw [h1.1 103 (by decide), hF.2 56 (by omega)]; exact hC.1, fun i x hx => ?_⟩
    obtain ⟨e1, e2⟩ := hC.2 i x hx
    rw [← e1, ← e2]
    simp only [jm_ct, h1.1 132 (by decide), h1.1 133 (by decide), h1.1 134 (by decide), h1.1 135 (by decide), h1.1 136 (by decide), hF.1 132 (by omega) (by omega), hF.1 133 (by omega) (by omega), hF.1 134 (by omega) (by omega), hF.1 135 (by omega) (by omega), hF.1 136 (by omega) (by omega)]
    exact ⟨trivial, trivial⟩
  refine jm_lc2 (D := 2) (by omega) hC1 hl T0 hb hTX hX (fun σ2 h2 => ⟨rfl, σ1, ?_, h2⟩) C.length (k := 0) (by omega) (by omega) ⟨jm_fr_rf σ1, by rw [h1.1 103 (by decide)]; exact jw_up_eq _ _ _ _, fun i x hx hi => by omega⟩
  exact h1

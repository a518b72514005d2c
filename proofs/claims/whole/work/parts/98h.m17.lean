/-! ===== the reference's point with most of all wishes ===== -/
theorem jm_ab2 {a x S X : Int} (h1 : -S ≤ a) (h2 : a ≤ S) (S0 : 0 ≤ S) (x0 : 0 ≤ x) (x1 : x ≤ X) : -(S * X) ≤ a * x ∧ a * x ≤ S * X := by
  have a1 := Int.mul_le_mul_of_nonneg_right h2 x0
  have a2 := Int.mul_le_mul_of_nonneg_left x1 S0
  have a3 := Int.mul_le_mul_of_nonneg_right h1 x0
  have e := Int.neg_mul S x
  omega
/-- all wishes together -/
def jm_Aw (σ : jw_H) (v : ge_R) : Int := jm_aw σ v (σ 103 4).toNat
/-- more of all wishes together, or as much and no later -/
def jm_bs (σ : jw_H) (p q : ge_R) : Prop := jm_Aw σ q * p.2.2.2 < jm_Aw σ p * q.2.2.2 ∨ (jm_Aw σ q * p.2.2.2 = jm_Aw σ p * q.2.2.2 ∧ ge_lt q p = false)
theorem jm_bs_le {σ : jw_H} {p q : ge_R} (h : jm_bs σ p q) : jm_Aw σ q * p.2.2.2 ≤ jm_Aw σ p * q.2.2.2 := by
  rcases h with h | h
  · omega
  · omega
theorem jm_bs_rf (σ : jw_H) (p : ge_R) : jm_bs σ p p := .inr ⟨rfl, ge_lt_ir p⟩
theorem jm_bs_tr {σ : jw_H} {p b i : ge_R} (wp : 0 < p.2.2.2) (wb : 0 < b.2.2.2) (wi : 0 < i.2.2.2) (h1 : jm_Aw σ b * p.2.2.2 < jm_Aw σ p * b.2.2.2 ∨ (jm_Aw σ b * p.2.2.2 = jm_Aw σ p * b.2.2.2 ∧ ge_lt p b = true)) (h2 : jm_bs σ b i) : jm_bs σ p i := by
  have l2 := jm_bs_le h2
  rcases h1 with h1 | ⟨h1, h3⟩
  · exact .inl (ge_fr_lt wi wb wp l2 (by omega) (.inr h1))
  · rcases h2 with h2 | ⟨h2, h4⟩
    · exact .inl (ge_fr_lt wi wb wp l2 (by omega) (.inl h2))
    · refine .inr ⟨ge_fr_eq wi wb wp h2 h1, ?_⟩
      match h5 : ge_lt i p with
      | false => rfl
      | true =>
        have := ge_lt_tr wi wp wb h5 h3
        rw [h4] at this
        cases this
theorem jm_Aw_bd {σ : jw_H} (hP : jm_Pb σ) {v : ge_R} (hv : jm_in4 382637520 v) : -10331213040 ≤ jm_Aw σ v ∧ jm_Aw σ v ≤ 10331213040 := by
  have hw := hP.2.1
  have h := jm_aw_bd hP hv (σ 103 4).toNat (by omega)
  have e : (((σ 103 4).toNat : Nat) : Int) = σ 103 4 := by omega
  rw [e] at h
  have h2 : 9 * 382637520 * σ 103 4 ≤ 10331213040 := by omega
  unfold jm_Aw
  omega
/-- the points in the store are no greater than this -/
def jm_pb (σ : jw_H) : Prop := (0 ≤ σ 103 46 ∧ σ 103 46 ≤ 64) ∧ ∀ i, 0 ≤ i → i < σ 103 46 → jm_in4 382637520 (jm_pt σ i) ∧ (jm_pt σ i).2.2.2 ≤ 162
theorem jm_Aw_w {σ : jw_H} (hP : jm_Pb σ) (hb : jm_pb σ) {i j : Int} (i0 : 0 ≤ i) (i1 : i < σ 103 46) (j0 : 0 ≤ j) (j1 : j < σ 103 46) : -1673656512480 ≤ jm_Aw σ (jm_pt σ i) * σ 128 j ∧ jm_Aw σ (jm_pt σ i) * σ 128 j ≤ 1673656512480 := by
  have h1 := jm_Aw_bd hP (hb.2 i i0 i1).1
  obtain ⟨h2, h3⟩ := hb.2 j j0 j1
  have h4 : 0 < σ 128 j := h2.2.2.2.1
  have h5 : σ 128 j ≤ 162 := h3
  have := jm_ab2 (S := 10331213040) (X := 162) (x := σ 128 j) (by omega) h1.2 (by omega) (by omega) h5
  omega
theorem ge_lt_not {p q : ge_R} (wp : 0 < p.2.2.2) (wq : 0 < q.2.2.2) (h : ge_lt q p = true ∨ ge_e p q) : ge_lt p q = false := by
  rcases h with h | h
  · exact ge_lt_asy wq wp h
  · match h2 : ge_lt p q with
    | false => rfl
    | true => exact absurd h (ge_lt_ne h2)
theorem jm_ms_old {σ : jw_H} {b k : Int} (hI : ∀ i, 0 ≤ i → i < k → jm_bs σ (jm_pt σ b) (jm_pt σ i)) (h : jm_bs σ (jm_pt σ b) (jm_pt σ k)) : ∀ i, 0 ≤ i → i < k + 1 → jm_bs σ (jm_pt σ b) (jm_pt σ i) := fun i i0 i1 => by
  by_cases e : i = k
  · rw [e]
    exact h
  · exact hI i i0 (by omega)
theorem jm_ms_new {σ : jw_H} {b k : Int} (wk : 0 < (jm_pt σ k).2.2.2) (wb : 0 < (jm_pt σ b).2.2.2) (hb : jm_pb σ) (hk : k < σ 103 46) (hI : ∀ i, 0 ≤ i → i < k → jm_bs σ (jm_pt σ b) (jm_pt σ i)) (h : jm_Aw σ (jm_pt σ b) * σ 128 k < jm_Aw σ (jm_pt σ k) * σ 128 b ∨ (jm_Aw σ (jm_pt σ b) * σ 128 k = jm_Aw σ (jm_pt σ k) * σ 128 b ∧ ge_lt (jm_pt σ k) (jm_pt σ b) = true)) : ∀ i, 0 ≤ i → i < k + 1 → jm_bs σ (jm_pt σ k) (jm_pt σ i) := fun i i0 i1 => by
  by_cases e : i = k
  · rw [e]
    exact jm_bs_rf σ _
  · exact jm_bs_tr wk wb (hb.2 i i0 (by omega)).1.2.2.2.1 h (hI i i0 (by omega))
theorem jm_most_loop {n : Nat} {σ : jw_H} (hP : jm_Pb σ) (hb : jm_pb σ) : ∀ (f : Nat) {b k : Int} {v : Option jw_V}, 0 ≤ b → b < k → k ≤ 64 → (b < σ 103 46 ∨ b = 0) → σ 103 46 ≤ k + f → (∀ i, 0 ≤ i → i < k → jm_bs σ (jm_pt σ b) (jm_pt σ i)) → jw_W (js_S n) 3 md_251 4 [some (.inr (.inr 103)), some (.inl b), some (.inl k), v] [] σ (fun r σ' => ∃ b, r = some (.inl b) ∧ σ' = σ ∧ 0 ≤ b ∧ (b < σ 103 46 ∨ b = 0) ∧ ∀ i, 0 ≤ i → i < σ 103 46 → jm_bs σ (jm_pt σ b) (jm_pt σ i))
  | f, b, k, v, b0, bk, kk, bm, hf, hI => by
    have k0 : 0 ≤ k := by omega
    have ih : ∀ {v' : Option jw_V} (b' : Int), k < σ 103 46 → 0 ≤ b' → (b' < k + 1 ∧ b' < σ 103 46) → (∀ i, 0 ≤ i → i < k + 1 → jm_bs σ (jm_pt σ b') (jm_pt σ i)) → jw_W (js_S n) 3 md_251 4 [some (.inr (.inr 103)), some (.inl b'), some (.inl (k + 1)), v'] [] σ (fun r σ' => ∃ b, r = some (.inl b) ∧ σ' = σ ∧ 0 ≤ b ∧ (b < σ 103 46 ∨ b = 0) ∧ ∀ i, 0 ≤ i → i < σ 103 46 → jm_bs σ (jm_pt σ b) (jm_pt σ i)) := by
      intro v' b' h1 h2 h3 h4
      match f, hf with
      | 0, hf => omega
      | f + 1, hf => exact jm_most_loop hP hb f h2 h3.1 (by have := hb.1; omega) (.inl h3.2) (by omega) h4
    have hm := hb.1
    refine jw_W_n 2 (i' := 6) (ls' := [some (.inr (.inr 103)), some (.inl b), some (.inl k), v]) (st' := [.inr (.inr 103), .inl k]) rfl ?_
    refine jw_W_gf rfl rfl rfl ?_
    show jw_W (js_S n) _ md_251 7 [some (.inr (.inr 103)), some (.inl b), some (.inl k), v] [.inl (σ 103 46), .inl k] σ _
    refine jw_W_ic rfl (by unfold jw_rg; omega) (by unfold jw_rg; omega) (fun hc1 => ?_) (fun hc1 => ?_)
    · have hc1 : k ≥ (σ 103 46) := hc1
      refine jw_W_n 1 (i' := 40) (ls' := [some (.inr (.inr 103)), some (.inl b), some (.inl k), v]) (st' := [.inl b]) rfl ?_
      refine jw_W_ir rfl ?_
      exact ⟨b, rfl, rfl, b0, by omega, fun i i0 i1 => hI i i0 (by omega)⟩
    · have hc1 : ¬ (k ≥ (σ 103 46)) := hc1
      have hkm : k < σ 103 46 := by omega
      have hbm : b < σ 103 46 := by omega
      have m1 := jm_Aw_w hP hb k0 hkm b0 hbm
      have m2 := jm_Aw_w hP hb b0 hbm k0 hkm
      have wk := (hb.2 k k0 hkm).1.2.2.2.1
      have wb := (hb.2 b b0 hbm).1.2.2.2.1
      refine jw_W_n 2 (i' := 10) (ls' := [some (.inr (.inr 103)), some (.inl b), some (.inl k), v]) (st' := [.inl k, .inr (.inr 103)]) rfl ?_
      refine jw_W_call (as := [.inr (.inr 103), .inl k]) (rest := []) rfl rfl rfl rfl (Nat.le_of_ble_eq_true rfl) (.inr rfl) (jm_allWished hP (by omega) (by omega)) (by omega) ?_ rfl
      rintro r1 σ1 ⟨rfl, hs⟩
      rw [hs]
      show jw_W (js_S n) _ md_251 11 [some (.inr (.inr 103)), some (.inl b), some (.inl k), v] [.inr (.inl (jm_Aw σ (jm_pt σ k)))] σ _
      refine jw_W_n 1 (i' := 12) (ls' := [some (.inr (.inr 103)), some (.inl b), some (.inl k), v]) (st' := [.inr (.inr 103), .inr (.inl (jm_Aw σ (jm_pt σ k)))]) rfl ?_
      refine jw_W_gf rfl rfl rfl ?_
      show jw_W (js_S n) _ md_251 13 [some (.inr (.inr 103)), some (.inl b), some (.inl k), v] [.inr (.inr 128), .inr (.inl (jm_Aw σ (jm_pt σ k)))] σ _
      refine jw_W_n 1 (i' := 14) (ls' := [some (.inr (.inr 103)), some (.inl b), some (.inl k), v]) (st' := [.inl b, .inr (.inr 128), .inr (.inl (jm_Aw σ (jm_pt σ k)))]) rfl ?_
      refine jw_W_la rfl rfl (by omega) (by omega) (by omega) ?_
      show jw_W (js_S n) _ md_251 15 [some (.inr (.inr 103)), some (.inl b), some (.inl k), v] [.inr (.inl (σ 128 b)), .inr (.inl (jm_Aw σ (jm_pt σ k)))] σ _
      refine jw_W_n 3 (i' := 18) (ls' := [some (.inr (.inr 103)), some (.inl b), some (.inl k), v]) (st' := [.inl b, .inr (.inr 103), .inr (.inl ((jm_Aw σ (jm_pt σ k)) * (σ 128 b)))]) rfl ?_
      refine jw_W_call (as := [.inr (.inr 103), .inl b]) (rest := [.inr (.inl ((jm_Aw σ (jm_pt σ k)) * (σ 128 b)))]) rfl rfl rfl rfl (Nat.le_of_ble_eq_true rfl) (.inr rfl) (jm_allWished hP (by omega) (by omega)) (by omega) ?_ rfl
      rintro r1 σ1 ⟨rfl, hs⟩
      rw [hs]
      show jw_W (js_S n) _ md_251 19 [some (.inr (.inr 103)), some (.inl b), some (.inl k), v] [.inr (.inl (jm_Aw σ (jm_pt σ b))), .inr (.inl ((jm_Aw σ (jm_pt σ k)) * (σ 128 b)))] σ _
      refine jw_W_n 1 (i' := 20) (ls' := [some (.inr (.inr 103)), some (.inl b), some (.inl k), v]) (st' := [.inr (.inr 103), .inr (.inl (jm_Aw σ (jm_pt σ b))), .inr (.inl ((jm_Aw σ (jm_pt σ k)) * (σ 128 b)))]) rfl ?_
      refine jw_W_gf rfl rfl rfl ?_
      show jw_W (js_S n) _ md_251 21 [some (.inr (.inr 103)), some (.inl b), some (.inl k), v] [.inr (.inr 128), .inr (.inl (jm_Aw σ (jm_pt σ b))), .inr (.inl ((jm_Aw σ (jm_pt σ k)) * (σ 128 b)))] σ _
      refine jw_W_n 1 (i' := 22) (ls' := [some (.inr (.inr 103)), some (.inl b), some (.inl k), v]) (st' := [.inl k, .inr (.inr 128), .inr (.inl (jm_Aw σ (jm_pt σ b))), .inr (.inl ((jm_Aw σ (jm_pt σ k)) * (σ 128 b)))]) rfl ?_
      refine jw_W_la rfl rfl (by omega) (by omega) (by omega) ?_
      show jw_W (js_S n) _ md_251 23 [some (.inr (.inr 103)), some (.inl b), some (.inl k), v] [.inr (.inl (σ 128 k)), .inr (.inl (jm_Aw σ (jm_pt σ b))), .inr (.inl ((jm_Aw σ (jm_pt σ k)) * (σ 128 b)))] σ _
      refine jw_W_n 1 (i' := 24) (ls' := [some (.inr (.inr 103)), some (.inl b), some (.inl k), v]) (st' := [.inr (.inl ((jm_Aw σ (jm_pt σ b)) * (σ 128 k))), .inr (.inl ((jm_Aw σ (jm_pt σ k)) * (σ 128 b)))]) rfl ?_
      refine jw_W_call (as := [.inr (.inl ((jm_Aw σ (jm_pt σ k)) * (σ 128 b))), .inr (.inl ((jm_Aw σ (jm_pt σ b)) * (σ 128 k)))]) (rest := []) rfl rfl rfl rfl (Nat.le_of_ble_eq_true rfl) (.inl rfl) (jm_compared (by unfold jw_rgl; omega) (by unfold jw_rgl; omega)) (by omega) ?_ rfl
      rintro r1 σ1 (⟨rfl, hs, q1⟩ | ⟨rfl, hs, q1⟩ | ⟨rfl, hs, q1⟩)
      · rw [hs]
        show jw_W (js_S n) _ md_251 25 [some (.inr (.inr 103)), some (.inl b), some (.inl k), v] [.inl ((-1))] σ _
        refine jw_W_n 2 (i' := 27) (ls' := [some (.inr (.inr 103)), some (.inl b), some (.inl k), some (.inl ((-1)))]) (st' := [.inl ((-1))]) rfl ?_
        refine jw_W_if rfl (by unfold jw_rg; omega) (fun hc2 => ?_) (fun hc2 => ?_)
        · exact absurd hc2 (show ¬ ((((-1 : Int))) > 0) by omega)
        · clear hc2
          refine jw_W_n 1 (i' := 29) (ls' := [some (.inr (.inr 103)), some (.inl b), some (.inl k), some (.inl ((-1)))]) (st' := [.inl ((-1))]) rfl ?_
          refine jw_W_if rfl (by unfold jw_rg; omega) (fun hc3 => ?_) (fun hc3 => ?_)
          · clear hc3
            refine jw_W_n 2 (i' := 4) (ls' := [some (.inr (.inr 103)), some (.inl b), some (.inl (k + 1)), some (.inl ((-1)))]) (st' := []) rfl ?_
            first | exact ih k hkm k0 (by omega) (jm_ms_new wk wb hb (by omega) hI (by first | exact .inl (by assumption) | exact .inr ⟨by symm; assumption, by assumption⟩)) | exact ih b hkm b0 (by omega) (jm_ms_old hI (by first | exact .inl (by assumption) | exact .inr ⟨by assumption, ge_lt_not (by omega) (by omega) (by first | exact .inl (by assumption) | exact .inr (by assumption))⟩))
          · exact absurd hc3 (show ¬ ¬ ((((-1 : Int))) ≠ 0) by omega)
      · rw [hs]
        show jw_W (js_S n) _ md_251 25 [some (.inr (.inr 103)), some (.inl b), some (.inl k), v] [.inl 1] σ _
        refine jw_W_n 2 (i' := 27) (ls' := [some (.inr (.inr 103)), some (.inl b), some (.inl k), some (.inl 1)]) (st' := [.inl 1]) rfl ?_
        refine jw_W_if rfl (by unfold jw_rg; omega) (fun hc4 => ?_) (fun hc4 => ?_)
        · clear hc4
          refine jw_W_n 4 (i' := 4) (ls' := [some (.inr (.inr 103)), some (.inl k), some (.inl (k + 1)), some (.inl 1)]) (st' := []) rfl ?_
          first | exact ih k hkm k0 (by omega) (jm_ms_new wk wb hb (by omega) hI (by first | exact .inl (by assumption) | exact .inr ⟨by symm; assumption, by assumption⟩)) | exact ih b hkm b0 (by omega) (jm_ms_old hI (by first | exact .inl (by assumption) | exact .inr ⟨by assumption, ge_lt_not (by omega) (by omega) (by first | exact .inl (by assumption) | exact .inr (by assumption))⟩))
        · exact absurd hc4 (show ¬ ¬ ((1 : Int) > 0) by omega)
      · rw [hs]
        show jw_W (js_S n) _ md_251 25 [some (.inr (.inr 103)), some (.inl b), some (.inl k), v] [.inl 0] σ _
        refine jw_W_n 2 (i' := 27) (ls' := [some (.inr (.inr 103)), some (.inl b), some (.inl k), some (.inl 0)]) (st' := [.inl 0]) rfl ?_
        refine jw_W_if rfl (by unfold jw_rg; omega) (fun hc5 => ?_) (fun hc5 => ?_)
        · exact absurd hc5 (show ¬ ((0 : Int) > 0) by omega)
        · clear hc5
          refine jw_W_n 1 (i' := 29) (ls' := [some (.inr (.inr 103)), some (.inl b), some (.inl k), some (.inl 0)]) (st' := [.inl 0]) rfl ?_
          refine jw_W_if rfl (by unfold jw_rg; omega) (fun hc6 => ?_) (fun hc6 => ?_)
          · exact absurd hc6 (show ¬ ((0 : Int) ≠ 0) by omega)
          · clear hc6
            refine jw_W_n 3 (i' := 33) (ls' := [some (.inr (.inr 103)), some (.inl b), some (.inl k), some (.inl 0)]) (st' := [.inl b, .inl k, .inr (.inr 103)]) rfl ?_
            refine jw_W_call (as := [.inr (.inr 103), .inl k, .inl b]) (rest := []) rfl rfl rfl rfl (Nat.le_of_ble_eq_true rfl) (.inr rfl) (jm_byPlace (X := 382637520) k0 (by omega) b0 (by omega) (hb.2 k k0 hkm).1 (hb.2 b b0 hbm).1 (by omega)) (by omega) ?_ rfl
            rintro r1 σ1 (⟨rfl, hs, q2⟩ | ⟨rfl, hs, q2⟩ | ⟨rfl, hs, q2⟩)
            · rw [hs]
              show jw_W (js_S n) _ md_251 34 [some (.inr (.inr 103)), some (.inl b), some (.inl k), some (.inl 0)] [.inl ((-1))] σ _
              refine jw_W_if rfl (by unfold jw_rg; omega) (fun hc7 => ?_) (fun hc7 => ?_)
              · exact absurd hc7 (show ¬ ((((-1 : Int))) ≥ 0) by omega)
              · clear hc7
                refine jw_W_n 4 (i' := 4) (ls' := [some (.inr (.inr 103)), some (.inl k), some (.inl (k + 1)), some (.inl 0)]) (st' := []) rfl ?_
                first | exact ih k hkm k0 (by omega) (jm_ms_new wk wb hb (by omega) hI (by first | exact .inl (by assumption) | exact .inr ⟨by symm; assumption, by assumption⟩)) | exact ih b hkm b0 (by omega) (jm_ms_old hI (by first | exact .inl (by assumption) | exact .inr ⟨by assumption, ge_lt_not (by omega) (by omega) (by first | exact .inl (by assumption) | exact .inr (by assumption))⟩))
            · rw [hs]
              show jw_W (js_S n) _ md_251 34 [some (.inr (.inr 103)), some (.inl b), some (.inl k), some (.inl 0)] [.inl 1] σ _
              refine jw_W_if rfl (by unfold jw_rg; omega) (fun hc8 => ?_) (fun hc8 => ?_)
              · clear hc8
                refine jw_W_n 2 (i' := 4) (ls' := [some (.inr (.inr 103)), some (.inl b), some (.inl (k + 1)), some (.inl 0)]) (st' := []) rfl ?_
                first | exact ih k hkm k0 (by omega) (jm_ms_new wk wb hb (by omega) hI (by first | exact .inl (by assumption) | exact .inr ⟨by symm; assumption, by assumption⟩)) | exact ih b hkm b0 (by omega) (jm_ms_old hI (by first | exact .inl (by assumption) | exact .inr ⟨by assumption, ge_lt_not (by omega) (by omega) (by first | exact .inl (by assumption) | exact .inr (by assumption))⟩))
              · exact absurd hc8 (show ¬ ¬ ((1 : Int) ≥ 0) by omega)
            · rw [hs]
              show jw_W (js_S n) _ md_251 34 [some (.inr (.inr 103)), some (.inl b), some (.inl k), some (.inl 0)] [.inl 0] σ _
              refine jw_W_if rfl (by unfold jw_rg; omega) (fun hc9 => ?_) (fun hc9 => ?_)
              · clear hc9
                refine jw_W_n 2 (i' := 4) (ls' := [some (.inr (.inr 103)), some (.inl b), some (.inl (k + 1)), some (.inl 0)]) (st' := []) rfl ?_
                first | exact ih k hkm k0 (by omega) (jm_ms_new wk wb hb (by omega) hI (by first | exact .inl (by assumption) | exact .inr ⟨by symm; assumption, by assumption⟩)) | exact ih b hkm b0 (by omega) (jm_ms_old hI (by first | exact .inl (by assumption) | exact .inr ⟨by assumption, ge_lt_not (by omega) (by omega) (by first | exact .inl (by assumption) | exact .inr (by assumption))⟩))
              · exact absurd hc9 (show ¬ ¬ ((0 : Int) ≥ 0) by omega)
theorem jm_mostWished {n : Nat} {σ : jw_H} (hP : jm_Pb σ) (hb : jm_pb σ) : jw_T (js_S n) 4 251 [.inr (.inr 103)] σ (fun r σ' => ∃ b, r = some (.inl b) ∧ σ' = σ ∧ 0 ≤ b ∧ (b < σ 103 46 ∨ b = 0) ∧ ∀ i, 0 ≤ i → i < σ 103 46 → jm_bs σ (jm_pt σ b) (jm_pt σ i)) := by
  refine jw_T_of (D := 3) (M := mm_251) rfl (Nat.le_of_ble_eq_true rfl) (ls0 := [some (.inr (.inr 103)), none, none, none]) rfl ?_ (by rintro _ _ ⟨_, rfl, -⟩; rfl)
  refine jw_W_n 4 (i' := 4) (ls' := [some (.inr (.inr 103)), some (.inl 0), some (.inl 1), none]) (st' := []) rfl ?_
  exact jm_most_loop hP hb (σ 103 46).toNat (b := 0) (k := 1) (by omega) (by omega) (by omega) (.inr rfl) (by omega) (fun i i0 i1 => by rw [show i = 0 by omega]; exact jm_bs_rf σ _)

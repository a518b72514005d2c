/-! ===== the reference's box ===== -/
/-- the planes that are tight at a corner of the box, as bits -/
def jm_tb (K q p : Int) : Nat → Int
  | 0 => 0
  | j + 1 => jw_or (jm_tb K q p j) (jw_shl 1 (K + (if jb_in p j then q + j else j)))
def jm_bx (σ : jw_H) (p : Int) (i : Nat) : Int := if jb_in p i then σ 106 (i : Int) else 0
def jm_bp (σ : jw_H) (p : Int) : ge_R := (jm_bx σ p 0, jm_bx σ p 1, jm_bx σ p 2, 1)
def jm_b1 (σ : jw_H) (p : Int) : Int := jm_tb (σ 103 5) (σ 103 3) p (σ 103 3).toNat
def jm_b0 (σ : jw_H) (m : Nat) : List (ge_R × Int) := (List.range m).map (fun (p : Nat) => (jm_bp σ (p : Int), jm_b1 σ (p : Int)))
theorem jm_pp1 (x y z : Int) : ge_pp (x, y, z, 1) = (x, y, z, 1) := by
  refine ge_pp_id ?_ (show (0 : Int) < 1 by omega)
  have h : Int.gcd z 1 = 1 := Int.gcd_one_right _
  show Nat.gcd (Int.gcd x y) (Int.gcd z 1) = 1
  rw [h, Nat.gcd_one_right]
/-- the box so far -/
def jm_bI (σ0 σ : jw_H) (m p : Int) : Prop := jm_fr σ0 σ ∧ σ 103 46 = m ∧ ∀ i, 0 ≤ i → i < p → jm_pt σ i = jm_bp σ0 i ∧ σ 130 i = jm_b1 σ0 i
theorem jm_bI_s {σ0 σ : jw_H} {m p x y z : Int} (H : jm_bI σ0 σ m p) (hx : x = jm_bx σ0 p 0) (hy : y = jm_bx σ0 p 1) (hz : z = jm_bx σ0 p 2) : jm_bI σ0 (jm_lpp σ p (ge_pp (x, y, z, 1)) (jm_b1 σ0 p)) m (p + 1) := by
  obtain ⟨a1, a2, a3⟩ := H
  subst hx hy hz
  refine ⟨jm_fr_lpp a1, by rw [jm_o_lpp _ _ _ _ (by omega)]; exact a2, fun i i0 i1 => ?_⟩
  rw [jm_pt_lpp, jm_tt_lpp, jm_pp1]
  by_cases h : i = p
  · subst h
    rw [if_pos rfl, if_pos rfl]
    exact ⟨rfl, rfl⟩
  · rw [if_neg h, if_neg h]
    exact a3 i i0 (by omega)
theorem jm_boxi {n : Nat} {σ0 σ : jw_H} {D : Nat} {k : Int} {Q : Option jw_V → jw_H → Prop} (hD : 1 ≤ D) (hP : jm_Pb σ0) (hF : jm_fr σ0 σ) (k0 : 0 ≤ k) (k1 : k < 8) (kk : jw_W (js_S n) D md_237 40 [some (.inr (.inr 103)), some (.inl k), some (.inl (jm_b1 σ0 k)), some (.inl (σ0 103 3))] [] σ Q) : ∀ (m : Nat) {t j : Int}, 0 ≤ j → j + m = σ0 103 3 → t = jm_tb (σ0 103 5) (σ0 103 3) k j.toNat → jw_W (js_S n) D md_237 16 [some (.inr (.inr 103)), some (.inl k), some (.inl t), some (.inl j)] [] σ Q
  | m, t, j, j0, hj, ht => by
    have hjn : ((j.toNat : Nat) : Int) = j := Int.toNat_of_nonneg j0
    have hj1 : (j + 1).toNat = j.toNat + 1 := by omega
    have ih : ∀ {t' : Int}, j < σ0 103 3 → t' = jm_tb (σ0 103 5) (σ0 103 3) k (j.toNat + 1) → jw_W (js_S n) D md_237 16 [some (.inr (.inr 103)), some (.inl k), some (.inl t'), some (.inl (j + 1))] [] σ Q := by
      intro t' h1 h2
      match m, hj with
      | 0, hj => omega
      | m + 1, hj => exact jm_boxi hD hP hF k0 k1 kk m (by omega) (by omega) (by rw [hj1]; exact h2)
    have hPq := hP.1
    have hPk := hP.2.2.1
    have e3 : σ 103 3 = σ0 103 3 := hF.2 3 (by omega)
    have e5 : σ 103 5 = σ0 103 5 := hF.2 5 (by omega)
    refine jw_W_n 2 (i' := 18) (ls' := [some (.inr (.inr 103)), some (.inl k), some (.inl t), some (.inl j)]) (st' := [.inr (.inr 103), .inl j]) rfl ?_
    refine jw_W_gf rfl rfl rfl ?_
    show jw_W (js_S n) _ md_237 19 [some (.inr (.inr 103)), some (.inl k), some (.inl t), some (.inl j)] [.inl (σ 103 3), .inl j] σ _
    rw [e3]
    refine jw_W_ic rfl (by unfold jw_rg; omega) (by unfold jw_rg; omega) (fun hc1 => ?_) (fun hc1 => ?_)
    · have hc1 : j ≥ (σ0 103 3) := hc1
      have hjq : j = σ0 103 3 := by omega
      subst hjq
      rw [ht]
      exact kk
    · have hc1 : ¬ (j ≥ (σ0 103 3)) := hc1
      refine jw_W_n 3 (i' := 23) (ls' := [some (.inr (.inr 103)), some (.inl k), some (.inl t), some (.inl j)]) (st' := [.inr (.inr 103), .inl 1, .inl t]) rfl ?_
      refine jw_W_gf rfl rfl rfl ?_
      show jw_W (js_S n) _ md_237 24 [some (.inr (.inr 103)), some (.inl k), some (.inl t), some (.inl j)] [.inl (σ 103 5), .inl 1, .inl t] σ _
      rw [e5]
      refine jw_W_n 2 (i' := 26) (ls' := [some (.inr (.inr 103)), some (.inl k), some (.inl t), some (.inl j)]) (st' := [.inl j, .inl k, .inl (σ0 103 5), .inl 1, .inl t]) rfl ?_
      refine jw_W_call (as := [.inl k, .inl j]) (rest := [.inl (σ0 103 5), .inl 1, .inl t]) rfl rfl rfl rfl (Nat.le_of_ble_eq_true rfl) (.inl rfl) (jm_has (by omega) (by omega) (by omega) (by omega)) (by omega) ?_ rfl
      rintro r1 σ1 (⟨rfl, hs, q1⟩ | ⟨rfl, hs, q1⟩)
      · rw [hs]
        show jw_W (js_S n) _ md_237 27 [some (.inr (.inr 103)), some (.inl k), some (.inl t), some (.inl j)] [.inl 1, .inl (σ0 103 5), .inl 1, .inl t] σ _
        refine jw_W_if rfl (by unfold jw_rg; omega) (fun hc2 => ?_) (fun hc2 => ?_)
        · exact absurd hc2 (show ¬ ((1 : Int) = 0) by omega)
        · clear hc2
          refine jw_W_n 1 (i' := 29) (ls' := [some (.inr (.inr 103)), some (.inl k), some (.inl t), some (.inl j)]) (st' := [.inr (.inr 103), .inl (σ0 103 5), .inl 1, .inl t]) rfl ?_
          refine jw_W_gf rfl rfl rfl ?_
          show jw_W (js_S n) _ md_237 30 [some (.inr (.inr 103)), some (.inl k), some (.inl t), some (.inl j)] [.inl (σ 103 3), .inl (σ0 103 5), .inl 1, .inl t] σ _
          rw [e3]
          refine jw_W_n 9 (i' := 16) (ls' := [some (.inr (.inr 103)), some (.inl k), some (.inl (jw_or t (jw_shl 1 (σ0 103 5 + (σ0 103 3 + j))))), some (.inl (j + 1))]) (st' := []) rfl ?_
          first
            | exact ih (by omega) (by show jw_or _ _ = jw_or _ _; rw [← ht, if_pos (by assumption), hjn])
            | exact ih (by omega) (by show jw_or _ _ = jw_or _ _; rw [← ht, if_neg (by assumption), hjn])
      · rw [hs]
        show jw_W (js_S n) _ md_237 27 [some (.inr (.inr 103)), some (.inl k), some (.inl t), some (.inl j)] [.inl 0, .inl (σ0 103 5), .inl 1, .inl t] σ _
        refine jw_W_if rfl (by unfold jw_rg; omega) (fun hc3 => ?_) (fun hc3 => ?_)
        · clear hc3
          refine jw_W_n 7 (i' := 16) (ls' := [some (.inr (.inr 103)), some (.inl k), some (.inl (jw_or t (jw_shl 1 (σ0 103 5 + j)))), some (.inl (j + 1))]) (st' := []) rfl ?_
          first
            | exact ih (by omega) (by show jw_or _ _ = jw_or _ _; rw [← ht, if_pos (by assumption), hjn])
            | exact ih (by omega) (by show jw_or _ _ = jw_or _ _; rw [← ht, if_neg (by assumption), hjn])
        · exact absurd hc3 (show ¬ ¬ ((0 : Int) = 0) by omega)
theorem jm_boxo {n : Nat} {σ0 : jw_H} {D : Nat} {m : Int} {Q : Option jw_V → jw_H → Prop} (hD : 2 ≤ D) (hP : jm_Pb σ0) (m8 : m ≤ 8) (kk : ∀ σ1 l2 l3, jm_bI σ0 σ1 m m → jw_W (js_S n) D md_237 80 [some (.inr (.inr 103)), some (.inl m), l2, l3] [] σ1 Q) : ∀ (f : Nat) {σ : jw_H} {k : Int} {l2 l3 : Option jw_V}, 0 ≤ k → k + f = m → jm_bI σ0 σ m k → jw_W (js_S n) D md_237 8 [some (.inr (.inr 103)), some (.inl k), l2, l3] [] σ Q
  | f, σ, k, l2, l3, k0, hk, hI => by
    have ih : ∀ {σ' : jw_H} {a b : Option jw_V}, k < m → jm_bI σ0 σ' m (k + 1) → jw_W (js_S n) D md_237 8 [some (.inr (.inr 103)), some (.inl (k + 1)), a, b] [] σ' Q := by
      intro σ' a b h1 h2
      match f, hk with
      | 0, hk => omega
      | f + 1, hk => exact jm_boxo hD hP m8 kk f (by omega) (by omega) h2
    have hD2 : 1 ≤ D := by omega
    have hPq := hP.1
    have hPk := hP.2.2.1
    have hPb0 := hP.2.2.2.2.1 0 (by omega) (by omega)
    have hPb1 := hP.2.2.2.2.1 1 (by omega) (by omega)
    have hPb2 := hP.2.2.2.2.1 2 (by omega) (by omega)
    have e106 : σ 106 = σ0 106 := hI.1.1 106 (by omega) (by omega)
    refine jw_W_n 2 (i' := 10) (ls' := [some (.inr (.inr 103)), some (.inl k), l2, l3]) (st' := [.inr (.inr 103), .inl k]) rfl ?_
    refine jw_W_gf rfl rfl rfl ?_
    show jw_W (js_S n) _ md_237 11 [some (.inr (.inr 103)), some (.inl k), l2, l3] [.inl (σ 103 46), .inl k] σ _
    rw [hI.2.1]
    refine jw_W_ic rfl (by unfold jw_rg; omega) (by unfold jw_rg; omega) (fun hc1 => ?_) (fun hc1 => ?_)
    · have hc1 : k ≥ m := hc1
      have hkm : k = m := by omega
      subst hkm
      exact kk σ l2 l3 hI
    · have hc1 : ¬ (k ≥ m) := hc1
      refine jw_W_n 4 (i' := 16) (ls' := [some (.inr (.inr 103)), some (.inl k), some (.inl 0), some (.inl 0)]) (st' := []) rfl ?_
      refine jm_boxi hD2 hP hI.1 k0 (by omega) ?_ (σ0 103 3).toNat (j := 0) (by omega) (by omega) rfl
      refine jw_W_n 4 (i' := 44) (ls' := [some (.inr (.inr 103)), some (.inl k), some (.inl (jm_b1 σ0 k)), some (.inl (σ0 103 3))]) (st' := [.inl 0, .inl k, .inl k, .inr (.inr 103)]) rfl ?_
      refine jw_W_call (as := [.inl k, .inl 0]) (rest := [.inl k, .inr (.inr 103)]) rfl rfl rfl rfl (Nat.le_of_ble_eq_true rfl) (.inl rfl) (jm_has (by omega) (by omega) (by omega) (by omega)) (by omega) ?_ rfl
      rintro r1 σ1 (⟨rfl, hs, q2⟩ | ⟨rfl, hs, q2⟩)
      · rw [hs]
        show jw_W (js_S n) _ md_237 45 [some (.inr (.inr 103)), some (.inl k), some (.inl (jm_b1 σ0 k)), some (.inl (σ0 103 3))] [.inl 1, .inl k, .inr (.inr 103)] σ _
        refine jw_W_if rfl (by unfold jw_rg; omega) (fun hc1 => ?_) (fun hc1 => ?_)
        · exact absurd hc1 (show ¬ ((1 : Int) = 0) by omega)
        · clear hc1
          refine jw_W_n 1 (i' := 47) (ls' := [some (.inr (.inr 103)), some (.inl k), some (.inl (jm_b1 σ0 k)), some (.inl (σ0 103 3))]) (st' := [.inr (.inr 103), .inl k, .inr (.inr 103)]) rfl ?_
          refine jw_W_gf rfl rfl rfl ?_
          show jw_W (js_S n) _ md_237 48 [some (.inr (.inr 103)), some (.inl k), some (.inl (jm_b1 σ0 k)), some (.inl (σ0 103 3))] [.inr (.inr 106), .inl k, .inr (.inr 103)] σ _
          refine jw_W_n 1 (i' := 49) (ls' := [some (.inr (.inr 103)), some (.inl k), some (.inl (jm_b1 σ0 k)), some (.inl (σ0 103 3))]) (st' := [.inl 0, .inr (.inr 106), .inl k, .inr (.inr 103)]) rfl ?_
          refine jw_W_ia rfl rfl (by omega) (by omega) (by omega) ?_
          show jw_W (js_S n) _ md_237 50 [some (.inr (.inr 103)), some (.inl k), some (.inl (jm_b1 σ0 k)), some (.inl (σ0 103 3))] [.inl (σ 106 0), .inl k, .inr (.inr 103)] σ _
          rw [e106]
          refine jw_W_i2l rfl (by unfold jw_rg; omega) ?_
          refine jw_W_n 3 (i' := 55) (ls' := [some (.inr (.inr 103)), some (.inl k), some (.inl (jm_b1 σ0 k)), some (.inl (σ0 103 3))]) (st' := [.inl 1, .inl k, .inr (.inl (σ0 106 0)), .inl k, .inr (.inr 103)]) rfl ?_
          refine jw_W_call (as := [.inl k, .inl 1]) (rest := [.inr (.inl (σ0 106 0)), .inl k, .inr (.inr 103)]) rfl rfl rfl rfl (Nat.le_of_ble_eq_true rfl) (.inl rfl) (jm_has (by omega) (by omega) (by omega) (by omega)) (by omega) ?_ rfl
          rintro r1 σ1 (⟨rfl, hs, q3⟩ | ⟨rfl, hs, q3⟩)
          · rw [hs]
            show jw_W (js_S n) _ md_237 56 [some (.inr (.inr 103)), some (.inl k), some (.inl (jm_b1 σ0 k)), some (.inl (σ0 103 3))] [.inl 1, .inr (.inl (σ0 106 0)), .inl k, .inr (.inr 103)] σ _
            refine jw_W_if rfl (by unfold jw_rg; omega) (fun hc2 => ?_) (fun hc2 => ?_)
            · exact absurd hc2 (show ¬ ((1 : Int) = 0) by omega)
            · clear hc2
              refine jw_W_n 1 (i' := 58) (ls' := [some (.inr (.inr 103)), some (.inl k), some (.inl (jm_b1 σ0 k)), some (.inl (σ0 103 3))]) (st' := [.inr (.inr 103), .inr (.inl (σ0 106 0)), .inl k, .inr (.inr 103)]) rfl ?_
              refine jw_W_gf rfl rfl rfl ?_
              show jw_W (js_S n) _ md_237 59 [some (.inr (.inr 103)), some (.inl k), some (.inl (jm_b1 σ0 k)), some (.inl (σ0 103 3))] [.inr (.inr 106), .inr (.inl (σ0 106 0)), .inl k, .inr (.inr 103)] σ _
              refine jw_W_n 1 (i' := 60) (ls' := [some (.inr (.inr 103)), some (.inl k), some (.inl (jm_b1 σ0 k)), some (.inl (σ0 103 3))]) (st' := [.inl 1, .inr (.inr 106), .inr (.inl (σ0 106 0)), .inl k, .inr (.inr 103)]) rfl ?_
              refine jw_W_ia rfl rfl (by omega) (by omega) (by omega) ?_
              show jw_W (js_S n) _ md_237 61 [some (.inr (.inr 103)), some (.inl k), some (.inl (jm_b1 σ0 k)), some (.inl (σ0 103 3))] [.inl (σ 106 1), .inr (.inl (σ0 106 0)), .inl k, .inr (.inr 103)] σ _
              rw [e106]
              refine jw_W_i2l rfl (by unfold jw_rg; omega) ?_
              refine jw_W_n 3 (i' := 66) (ls' := [some (.inr (.inr 103)), some (.inl k), some (.inl (jm_b1 σ0 k)), some (.inl (σ0 103 3))]) (st' := [.inl 2, .inl k, .inr (.inl (σ0 106 1)), .inr (.inl (σ0 106 0)), .inl k, .inr (.inr 103)]) rfl ?_
              refine jw_W_call (as := [.inl k, .inl 2]) (rest := [.inr (.inl (σ0 106 1)), .inr (.inl (σ0 106 0)), .inl k, .inr (.inr 103)]) rfl rfl rfl rfl (Nat.le_of_ble_eq_true rfl) (.inl rfl) (jm_has (by omega) (by omega) (by omega) (by omega)) (by omega) ?_ rfl
              rintro r1 σ1 (⟨rfl, hs, q4⟩ | ⟨rfl, hs, q4⟩)
              · rw [hs]
                show jw_W (js_S n) _ md_237 67 [some (.inr (.inr 103)), some (.inl k), some (.inl (jm_b1 σ0 k)), some (.inl (σ0 103 3))] [.inl 1, .inr (.inl (σ0 106 1)), .inr (.inl (σ0 106 0)), .inl k, .inr (.inr 103)] σ _
                refine jw_W_if rfl (by unfold jw_rg; omega) (fun hc3 => ?_) (fun hc3 => ?_)
                · exact absurd hc3 (show ¬ ((1 : Int) = 0) by omega)
                · clear hc3
                  refine jw_W_n 1 (i' := 69) (ls' := [some (.inr (.inr 103)), some (.inl k), some (.inl (jm_b1 σ0 k)), some (.inl (σ0 103 3))]) (st' := [.inr (.inr 103), .inr (.inl (σ0 106 1)), .inr (.inl (σ0 106 0)), .inl k, .inr (.inr 103)]) rfl ?_
                  refine jw_W_gf rfl rfl rfl ?_
                  show jw_W (js_S n) _ md_237 70 [some (.inr (.inr 103)), some (.inl k), some (.inl (jm_b1 σ0 k)), some (.inl (σ0 103 3))] [.inr (.inr 106), .inr (.inl (σ0 106 1)), .inr (.inl (σ0 106 0)), .inl k, .inr (.inr 103)] σ _
                  refine jw_W_n 1 (i' := 71) (ls' := [some (.inr (.inr 103)), some (.inl k), some (.inl (jm_b1 σ0 k)), some (.inl (σ0 103 3))]) (st' := [.inl 2, .inr (.inr 106), .inr (.inl (σ0 106 1)), .inr (.inl (σ0 106 0)), .inl k, .inr (.inr 103)]) rfl ?_
                  refine jw_W_ia rfl rfl (by omega) (by omega) (by omega) ?_
                  show jw_W (js_S n) _ md_237 72 [some (.inr (.inr 103)), some (.inl k), some (.inl (jm_b1 σ0 k)), some (.inl (σ0 103 3))] [.inl (σ 106 2), .inr (.inl (σ0 106 1)), .inr (.inl (σ0 106 0)), .inl k, .inr (.inr 103)] σ _
                  rw [e106]
                  refine jw_W_i2l rfl (by unfold jw_rg; omega) ?_
                  refine jw_W_n 3 (i' := 77) (ls' := [some (.inr (.inr 103)), some (.inl k), some (.inl (jm_b1 σ0 k)), some (.inl (σ0 103 3))]) (st' := [.inl (jm_b1 σ0 k), .inr (.inl 1), .inr (.inl (σ0 106 2)), .inr (.inl (σ0 106 1)), .inr (.inl (σ0 106 0)), .inl k, .inr (.inr 103)]) rfl ?_
                  refine jw_W_call (as := [.inr (.inr 103), .inl k, .inr (.inl (σ0 106 0)), .inr (.inl (σ0 106 1)), .inr (.inl (σ0 106 2)), .inr (.inl 1), .inl (jm_b1 σ0 k)]) (rest := []) rfl rfl rfl rfl (Nat.le_of_ble_eq_true rfl) (.inr rfl) (jm_laysPoint2 (by omega) (by omega) (by unfold jm_bg; omega) (by unfold jm_bg; omega) (by unfold jm_bg; omega) (by omega) (by unfold jm_bg; omega)) (by omega) ?_ rfl
                  rintro r1 σ1 ⟨rfl, hs⟩
                  rw [hs]
                  show jw_W (js_S n) _ md_237 78 [some (.inr (.inr 103)), some (.inl k), some (.inl (jm_b1 σ0 k)), some (.inl (σ0 103 3))] [] ((jm_lpp σ k (ge_pp (σ0 106 0, σ0 106 1, σ0 106 2, 1)) (jm_b1 σ0 k))) _
                  refine jw_W_n 2 (i' := 8) (ls' := [some (.inr (.inr 103)), some (.inl (k + 1)), some (.inl (jm_b1 σ0 k)), some (.inl (σ0 103 3))]) (st' := []) rfl ?_
                  exact ih (by omega) (jm_bI_s hI (by unfold jm_bx; first | rw [if_pos (by assumption)]; rfl | rw [if_neg (by assumption)]) (by unfold jm_bx; first | rw [if_pos (by assumption)]; rfl | rw [if_neg (by assumption)]) (by unfold jm_bx; first | rw [if_pos (by assumption)]; rfl | rw [if_neg (by assumption)]))
              · rw [hs]
                show jw_W (js_S n) _ md_237 67 [some (.inr (.inr 103)), some (.inl k), some (.inl (jm_b1 σ0 k)), some (.inl (σ0 103 3))] [.inl 0, .inr (.inl (σ0 106 1)), .inr (.inl (σ0 106 0)), .inl k, .inr (.inr 103)] σ _
                refine jw_W_if rfl (by unfold jw_rg; omega) (fun hc4 => ?_) (fun hc4 => ?_)
                · clear hc4
                  refine jw_W_n 3 (i' := 77) (ls' := [some (.inr (.inr 103)), some (.inl k), some (.inl (jm_b1 σ0 k)), some (.inl (σ0 103 3))]) (st' := [.inl (jm_b1 σ0 k), .inr (.inl 1), .inr (.inl 0), .inr (.inl (σ0 106 1)), .inr (.inl (σ0 106 0)), .inl k, .inr (.inr 103)]) rfl ?_
                  refine jw_W_call (as := [.inr (.inr 103), .inl k, .inr (.inl (σ0 106 0)), .inr (.inl (σ0 106 1)), .inr (.inl 0), .inr (.inl 1), .inl (jm_b1 σ0 k)]) (rest := []) rfl rfl rfl rfl (Nat.le_of_ble_eq_true rfl) (.inr rfl) (jm_laysPoint2 (by omega) (by omega) (by unfold jm_bg; omega) (by unfold jm_bg; omega) (by unfold jm_bg; omega) (by omega) (by unfold jm_bg; omega)) (by omega) ?_ rfl
                  rintro r1 σ1 ⟨rfl, hs⟩
                  rw [hs]
                  show jw_W (js_S n) _ md_237 78 [some (.inr (.inr 103)), some (.inl k), some (.inl (jm_b1 σ0 k)), some (.inl (σ0 103 3))] [] ((jm_lpp σ k (ge_pp (σ0 106 0, σ0 106 1, 0, 1)) (jm_b1 σ0 k))) _
                  refine jw_W_n 2 (i' := 8) (ls' := [some (.inr (.inr 103)), some (.inl (k + 1)), some (.inl (jm_b1 σ0 k)), some (.inl (σ0 103 3))]) (st' := []) rfl ?_
                  exact ih (by omega) (jm_bI_s hI (by unfold jm_bx; first | rw [if_pos (by assumption)]; rfl | rw [if_neg (by assumption)]) (by unfold jm_bx; first | rw [if_pos (by assumption)]; rfl | rw [if_neg (by assumption)]) (by unfold jm_bx; first | rw [if_pos (by assumption)]; rfl | rw [if_neg (by assumption)]))
                · exact absurd hc4 (show ¬ ¬ ((0 : Int) = 0) by omega)
          · rw [hs]
            show jw_W (js_S n) _ md_237 56 [some (.inr (.inr 103)), some (.inl k), some (.inl (jm_b1 σ0 k)), some (.inl (σ0 103 3))] [.inl 0, .inr (.inl (σ0 106 0)), .inl k, .inr (.inr 103)] σ _
            refine jw_W_if rfl (by unfold jw_rg; omega) (fun hc5 => ?_) (fun hc5 => ?_)
            · clear hc5
              refine jw_W_n 3 (i' := 66) (ls' := [some (.inr (.inr 103)), some (.inl k), some (.inl (jm_b1 σ0 k)), some (.inl (σ0 103 3))]) (st' := [.inl 2, .inl k, .inr (.inl 0), .inr (.inl (σ0 106 0)), .inl k, .inr (.inr 103)]) rfl ?_
              refine jw_W_call (as := [.inl k, .inl 2]) (rest := [.inr (.inl 0), .inr (.inl (σ0 106 0)), .inl k, .inr (.inr 103)]) rfl rfl rfl rfl (Nat.le_of_ble_eq_true rfl) (.inl rfl) (jm_has (by omega) (by omega) (by omega) (by omega)) (by omega) ?_ rfl
              rintro r1 σ1 (⟨rfl, hs, q5⟩ | ⟨rfl, hs, q5⟩)
              · rw [hs]
                show jw_W (js_S n) _ md_237 67 [some (.inr (.inr 103)), some (.inl k), some (.inl (jm_b1 σ0 k)), some (.inl (σ0 103 3))] [.inl 1, .inr (.inl 0), .inr (.inl (σ0 106 0)), .inl k, .inr (.inr 103)] σ _
                refine jw_W_if rfl (by unfold jw_rg; omega) (fun hc6 => ?_) (fun hc6 => ?_)
                · exact absurd hc6 (show ¬ ((1 : Int) = 0) by omega)
                · clear hc6
                  refine jw_W_n 1 (i' := 69) (ls' := [some (.inr (.inr 103)), some (.inl k), some (.inl (jm_b1 σ0 k)), some (.inl (σ0 103 3))]) (st' := [.inr (.inr 103), .inr (.inl 0), .inr (.inl (σ0 106 0)), .inl k, .inr (.inr 103)]) rfl ?_
                  refine jw_W_gf rfl rfl rfl ?_
                  show jw_W (js_S n) _ md_237 70 [some (.inr (.inr 103)), some (.inl k), some (.inl (jm_b1 σ0 k)), some (.inl (σ0 103 3))] [.inr (.inr 106), .inr (.inl 0), .inr (.inl (σ0 106 0)), .inl k, .inr (.inr 103)] σ _
                  refine jw_W_n 1 (i' := 71) (ls' := [some (.inr (.inr 103)), some (.inl k), some (.inl (jm_b1 σ0 k)), some (.inl (σ0 103 3))]) (st' := [.inl 2, .inr (.inr 106), .inr (.inl 0), .inr (.inl (σ0 106 0)), .inl k, .inr (.inr 103)]) rfl ?_
                  refine jw_W_ia rfl rfl (by omega) (by omega) (by omega) ?_
                  show jw_W (js_S n) _ md_237 72 [some (.inr (.inr 103)), some (.inl k), some (.inl (jm_b1 σ0 k)), some (.inl (σ0 103 3))] [.inl (σ 106 2), .inr (.inl 0), .inr (.inl (σ0 106 0)), .inl k, .inr (.inr 103)] σ _
                  rw [e106]
                  refine jw_W_i2l rfl (by unfold jw_rg; omega) ?_
                  refine jw_W_n 3 (i' := 77) (ls' := [some (.inr (.inr 103)), some (.inl k), some (.inl (jm_b1 σ0 k)), some (.inl (σ0 103 3))]) (st' := [.inl (jm_b1 σ0 k), .inr (.inl 1), .inr (.inl (σ0 106 2)), .inr (.inl 0), .inr (.inl (σ0 106 0)), .inl k, .inr (.inr 103)]) rfl ?_
                  refine jw_W_call (as := [.inr (.inr 103), .inl k, .inr (.inl (σ0 106 0)), .inr (.inl 0), .inr (.inl (σ0 106 2)), .inr (.inl 1), .inl (jm_b1 σ0 k)]) (rest := []) rfl rfl rfl rfl (Nat.le_of_ble_eq_true rfl) (.inr rfl) (jm_laysPoint2 (by omega) (by omega) (by unfold jm_bg; omega) (by unfold jm_bg; omega) (by unfold jm_bg; omega) (by omega) (by unfold jm_bg; omega)) (by omega) ?_ rfl
                  rintro r1 σ1 ⟨rfl, hs⟩
                  rw [hs]
                  show jw_W (js_S n) _ md_237 78 [some (.inr (.inr 103)), some (.inl k), some (.inl (jm_b1 σ0 k)), some (.inl (σ0 103 3))] [] ((jm_lpp σ k (ge_pp (σ0 106 0, 0, σ0 106 2, 1)) (jm_b1 σ0 k))) _
                  refine jw_W_n 2 (i' := 8) (ls' := [some (.inr (.inr 103)), some (.inl (k + 1)), some (.inl (jm_b1 σ0 k)), some (.inl (σ0 103 3))]) (st' := []) rfl ?_
                  exact ih (by omega) (jm_bI_s hI (by unfold jm_bx; first | rw [if_pos (by assumption)]; rfl | rw [if_neg (by assumption)]) (by unfold jm_bx; first | rw [if_pos (by assumption)]; rfl | rw [if_neg (by assumption)]) (by unfold jm_bx; first | rw [if_pos (by assumption)]; rfl | rw [if_neg (by assumption)]))
              · rw [hs]
                show jw_W (js_S n) _ md_237 67 [some (.inr (.inr 103)), some (.inl k), some (.inl (jm_b1 σ0 k)), some (.inl (σ0 103 3))] [.inl 0, .inr (.inl 0), .inr (.inl (σ0 106 0)), .inl k, .inr (.inr 103)] σ _
                refine jw_W_if rfl (by unfold jw_rg; omega) (fun hc7 => ?_) (fun hc7 => ?_)
                · clear hc7
                  refine jw_W_n 3 (i' := 77) (ls' := [some (.inr (.inr 103)), some (.inl k), some (.inl (jm_b1 σ0 k)), some (.inl (σ0 103 3))]) (st' := [.inl (jm_b1 σ0 k), .inr (.inl 1), .inr (.inl 0), .inr (.inl 0), .inr (.inl (σ0 106 0)), .inl k, .inr (.inr 103)]) rfl ?_
                  refine jw_W_call (as := [.inr (.inr 103), .inl k, .inr (.inl (σ0 106 0)), .inr (.inl 0), .inr (.inl 0), .inr (.inl 1), .inl (jm_b1 σ0 k)]) (rest := []) rfl rfl rfl rfl (Nat.le_of_ble_eq_true rfl) (.inr rfl) (jm_laysPoint2 (by omega) (by omega) (by unfold jm_bg; omega) (by unfold jm_bg; omega) (by unfold jm_bg; omega) (by omega) (by unfold jm_bg; omega)) (by omega) ?_ rfl
                  rintro r1 σ1 ⟨rfl, hs⟩
                  rw [hs]
                  show jw_W (js_S n) _ md_237 78 [some (.inr (.inr 103)), some (.inl k), some (.inl (jm_b1 σ0 k)), some (.inl (σ0 103 3))] [] ((jm_lpp σ k (ge_pp (σ0 106 0, 0, 0, 1)) (jm_b1 σ0 k))) _
                  refine jw_W_n 2 (i' := 8) (ls' := [some (.inr (.inr 103)), some (.inl (k + 1)), some (.inl (jm_b1 σ0 k)), some (.inl (σ0 103 3))]) (st' := []) rfl ?_
                  exact ih (by omega) (jm_bI_s hI (by unfold jm_bx; first | rw [if_pos (by assumption)]; rfl | rw [if_neg (by assumption)]) (by unfold jm_bx; first | rw [if_pos (by assumption)]; rfl | rw [if_neg (by assumption)]) (by unfold jm_bx; first | rw [if_pos (by assumption)]; rfl | rw [if_neg (by assumption)]))
                · exact absurd hc7 (show ¬ ¬ ((0 : Int) = 0) by omega)
            · exact absurd hc5 (show ¬ ¬ ((0 : Int) = 0) by omega)
      · rw [hs]
        show jw_W (js_S n) _ md_237 45 [some (.inr (.inr 103)), some (.inl k), some (.inl (jm_b1 σ0 k)), some (.inl (σ0 103 3))] [.inl 0, .inl k, .inr (.inr 103)] σ _
        refine jw_W_if rfl (by unfold jw_rg; omega) (fun hc8 => ?_) (fun hc8 => ?_)
        · clear hc8
          refine jw_W_n 3 (i' := 55) (ls' := [some (.inr (.inr 103)), some (.inl k), some (.inl (jm_b1 σ0 k)), some (.inl (σ0 103 3))]) (st' := [.inl 1, .inl k, .inr (.inl 0), .inl k, .inr (.inr 103)]) rfl ?_
          refine jw_W_call (as := [.inl k, .inl 1]) (rest := [.inr (.inl 0), .inl k, .inr (.inr 103)]) rfl rfl rfl rfl (Nat.le_of_ble_eq_true rfl) (.inl rfl) (jm_has (by omega) (by omega) (by omega) (by omega)) (by omega) ?_ rfl
          rintro r1 σ1 (⟨rfl, hs, q6⟩ | ⟨rfl, hs, q6⟩)
          · rw [hs]
            show jw_W (js_S n) _ md_237 56 [some (.inr (.inr 103)), some (.inl k), some (.inl (jm_b1 σ0 k)), some (.inl (σ0 103 3))] [.inl 1, .inr (.inl 0), .inl k, .inr (.inr 103)] σ _
            refine jw_W_if rfl (by unfold jw_rg; omega) (fun hc9 => ?_) (fun hc9 => ?_)
            · exact absurd hc9 (show ¬ ((1 : Int) = 0) by omega)
            · clear hc9
              refine jw_W_n 1 (i' := 58) (ls' := [some (.inr (.inr 103)), some (.inl k), some (.inl (jm_b1 σ0 k)), some (.inl (σ0 103 3))]) (st' := [.inr (.inr 103), .inr (.inl 0), .inl k, .inr (.inr 103)]) rfl ?_
              refine jw_W_gf rfl rfl rfl ?_
              show jw_W (js_S n) _ md_237 59 [some (.inr (.inr 103)), some (.inl k), some (.inl (jm_b1 σ0 k)), some (.inl (σ0 103 3))] [.inr (.inr 106), .inr (.inl 0), .inl k, .inr (.inr 103)] σ _
              refine jw_W_n 1 (i' := 60) (ls' := [some (.inr (.inr 103)), some (.inl k), some (.inl (jm_b1 σ0 k)), some (.inl (σ0 103 3))]) (st' := [.inl 1, .inr (.inr 106), .inr (.inl 0), .inl k, .inr (.inr 103)]) rfl ?_
              refine jw_W_ia rfl rfl (by omega) (by omega) (by omega) ?_
              show jw_W (js_S n) _ md_237 61 [some (.inr (.inr 103)), some (.inl k), some (.inl (jm_b1 σ0 k)), some (.inl (σ0 103 3))] [.inl (σ 106 1), .inr (.inl 0), .inl k, .inr (.inr 103)] σ _
              rw [e106]
              refine jw_W_i2l rfl (by unfold jw_rg; omega) ?_
              refine jw_W_n 3 (i' := 66) (ls' := [some (.inr (.inr 103)), some (.inl k), some (.inl (jm_b1 σ0 k)), some (.inl (σ0 103 3))]) (st' := [.inl 2, .inl k, .inr (.inl (σ0 106 1)), .inr (.inl 0), .inl k, .inr (.inr 103)]) rfl ?_
              refine jw_W_call (as := [.inl k, .inl 2]) (rest := [.inr (.inl (σ0 106 1)), .inr (.inl 0), .inl k, .inr (.inr 103)]) rfl rfl rfl rfl (Nat.le_of_ble_eq_true rfl) (.inl rfl) (jm_has (by omega) (by omega) (by omega) (by omega)) (by omega) ?_ rfl
              rintro r1 σ1 (⟨rfl, hs, q7⟩ | ⟨rfl, hs, q7⟩)
              · rw [hs]
                show jw_W (js_S n) _ md_237 67 [some (.inr (.inr 103)), some (.inl k), some (.inl (jm_b1 σ0 k)), some (.inl (σ0 103 3))] [.inl 1, .inr (.inl (σ0 106 1)), .inr (.inl 0), .inl k, .inr (.inr 103)] σ _
                refine jw_W_if rfl (by unfold jw_rg; omega) (fun hc10 => ?_) (fun hc10 => ?_)
                · exact absurd hc10 (show ¬ ((1 : Int) = 0) by omega)
                · clear hc10
                  refine jw_W_n 1 (i' := 69) (ls' := [some (.inr (.inr 103)), some (.inl k), some (.inl (jm_b1 σ0 k)), some (.inl (σ0 103 3))]) (st' := [.inr (.inr 103), .inr (.inl (σ0 106 1)), .inr (.inl 0), .inl k, .inr (.inr 103)]) rfl ?_
                  refine jw_W_gf rfl rfl rfl ?_
                  show jw_W (js_S n) _ md_237 70 [some (.inr (.inr 103)), some (.inl k), some (.inl (jm_b1 σ0 k)), some (.inl (σ0 103 3))] [.inr (.inr 106), .inr (.inl (σ0 106 1)), .inr (.inl 0), .inl k, .inr (.inr 103)] σ _
                  refine jw_W_n 1 (i' := 71) (ls' := [some (.inr (.inr 103)), some (.inl k), some (.inl (jm_b1 σ0 k)), some (.inl (σ0 103 3))]) (st' := [.inl 2, .inr (.inr 106), .inr (.inl (σ0 106 1)), .inr (.inl 0), .inl k, .inr (.inr 103)]) rfl ?_
                  refine jw_W_ia rfl rfl (by omega) (by omega) (by omega) ?_
                  show jw_W (js_S n) _ md_237 72 [some (.inr (.inr 103)), some (.inl k), some (.inl (jm_b1 σ0 k)), some (.inl (σ0 103 3))] [.inl (σ 106 2), .inr (.inl (σ0 106 1)), .inr (.inl 0), .inl k, .inr (.inr 103)] σ _
                  rw [e106]
                  refine jw_W_i2l rfl (by unfold jw_rg; omega) ?_
                  refine jw_W_n 3 (i' := 77) (ls' := [some (.inr (.inr 103)), some (.inl k), some (.inl (jm_b1 σ0 k)), some (.inl (σ0 103 3))]) (st' := [.inl (jm_b1 σ0 k), .inr (.inl 1), .inr (.inl (σ0 106 2)), .inr (.inl (σ0 106 1)), .inr (.inl 0), .inl k, .inr (.inr 103)]) rfl ?_
                  refine jw_W_call (as := [.inr (.inr 103), .inl k, .inr (.inl 0), .inr (.inl (σ0 106 1)), .inr (.inl (σ0 106 2)), .inr (.inl 1), .inl (jm_b1 σ0 k)]) (rest := []) rfl rfl rfl rfl (Nat.le_of_ble_eq_true rfl) (.inr rfl) (jm_laysPoint2 (by omega) (by omega) (by unfold jm_bg; omega) (by unfold jm_bg; omega) (by unfold jm_bg; omega) (by omega) (by unfold jm_bg; omega)) (by omega) ?_ rfl
                  rintro r1 σ1 ⟨rfl, hs⟩
                  rw [hs]
                  show jw_W (js_S n) _ md_237 78 [some (.inr (.inr 103)), some (.inl k), some (.inl (jm_b1 σ0 k)), some (.inl (σ0 103 3))] [] ((jm_lpp σ k (ge_pp (0, σ0 106 1, σ0 106 2, 1)) (jm_b1 σ0 k))) _
                  refine jw_W_n 2 (i' := 8) (ls' := [some (.inr (.inr 103)), some (.inl (k + 1)), some (.inl (jm_b1 σ0 k)), some (.inl (σ0 103 3))]) (st' := []) rfl ?_
                  exact ih (by omega) (jm_bI_s hI (by unfold jm_bx; first | rw [if_pos (by assumption)]; rfl | rw [if_neg (by assumption)]) (by unfold jm_bx; first | rw [if_pos (by assumption)]; rfl | rw [if_neg (by assumption)]) (by unfold jm_bx; first | rw [if_pos (by assumption)]; rfl | rw [if_neg (by assumption)]))
              · rw [hs]
                show jw_W (js_S n) _ md_237 67 [some (.inr (.inr 103)), some (.inl k), some (.inl (jm_b1 σ0 k)), some (.inl (σ0 103 3))] [.inl 0, .inr (.inl (σ0 106 1)), .inr (.inl 0), .inl k, .inr (.inr 103)] σ _
                refine jw_W_if rfl (by unfold jw_rg; omega) (fun hc11 => ?_) (fun hc11 => ?_)
                · clear hc11
                  refine jw_W_n 3 (i' := 77) (ls' := [some (.inr (.inr 103)), some (.inl k), some (.inl (jm_b1 σ0 k)), some (.inl (σ0 103 3))]) (st' := [.inl (jm_b1 σ0 k), .inr (.inl 1), .inr (.inl 0), .inr (.inl (σ0 106 1)), .inr (.inl 0), .inl k, .inr (.inr 103)]) rfl ?_
                  refine jw_W_call (as := [.inr (.inr 103), .inl k, .inr (.inl 0), .inr (.inl (σ0 106 1)), .inr (.inl 0), .inr (.inl 1), .inl (jm_b1 σ0 k)]) (rest := []) rfl rfl rfl rfl (Nat.le_of_ble_eq_true rfl) (.inr rfl) (jm_laysPoint2 (by omega) (by omega) (by unfold jm_bg; omega) (by unfold jm_bg; omega) (by unfold jm_bg; omega) (by omega) (by unfold jm_bg; omega)) (by omega) ?_ rfl
                  rintro r1 σ1 ⟨rfl, hs⟩
                  rw [hs]
                  show jw_W (js_S n) _ md_237 78 [some (.inr (.inr 103)), some (.inl k), some (.inl (jm_b1 σ0 k)), some (.inl (σ0 103 3))] [] ((jm_lpp σ k (ge_pp (0, σ0 106 1, 0, 1)) (jm_b1 σ0 k))) _
                  refine jw_W_n 2 (i' := 8) (ls' := [some (.inr (.inr 103)), some (.inl (k + 1)), some (.inl (jm_b1 σ0 k)), some (.inl (σ0 103 3))]) (st' := []) rfl ?_
                  exact ih (by omega) (jm_bI_s hI (by unfold jm_bx; first | rw [if_pos (by assumption)]; rfl | rw [if_neg (by assumption)]) (by unfold jm_bx; first | rw [if_pos (by assumption)]; rfl | rw [if_neg (by assumption)]) (by unfold jm_bx; first | rw [if_pos (by assumption)]; rfl | rw [if_neg (by assumption)]))
                · exact absurd hc11 (show ¬ ¬ ((0 : Int) = 0) by omega)
          · rw [hs]
            show jw_W (js_S n) _ md_237 56 [some (.inr (.inr 103)), some (.inl k), some (.inl (jm_b1 σ0 k)), some (.inl (σ0 103 3))] [.inl 0, .inr (.inl 0), .inl k, .inr (.inr 103)] σ _
            refine jw_W_if rfl (by unfold jw_rg; omega) (fun hc12 => ?_) (fun hc12 => ?_)
            · clear hc12
              refine jw_W_n 3 (i' := 66) (ls' := [some (.inr (.inr 103)), some (.inl k), some (.inl (jm_b1 σ0 k)), some (.inl (σ0 103 3))]) (st' := [.inl 2, .inl k, .inr (.inl 0), .inr (.inl 0), .inl k, .inr (.inr 103)]) rfl ?_
              refine jw_W_call (as := [.inl k, .inl 2]) (rest := [.inr (.inl 0), .inr (.inl 0), .inl k, .inr (.inr 103)]) rfl rfl rfl rfl (Nat.le_of_ble_eq_true rfl) (.inl rfl) (jm_has (by omega) (by omega) (by omega) (by omega)) (by omega) ?_ rfl
              rintro r1 σ1 (⟨rfl, hs, q8⟩ | ⟨rfl, hs, q8⟩)
              · rw [hs]
                show jw_W (js_S n) _ md_237 67 [some (.inr (.inr 103)), some (.inl k), some (.inl (jm_b1 σ0 k)), some (.inl (σ0 103 3))] [.inl 1, .inr (.inl 0), .inr (.inl 0), .inl k, .inr (.inr 103)] σ _
                refine jw_W_if rfl (by unfold jw_rg; omega) (fun hc13 => ?_) (fun hc13 => ?_)
                · exact absurd hc13 (show ¬ ((1 : Int) = 0) by omega)
                · clear hc13
                  refine jw_W_n 1 (i' := 69) (ls' := [some (.inr (.inr 103)), some (.inl k), some (.inl (jm_b1 σ0 k)), some (.inl (σ0 103 3))]) (st' := [.inr (.inr 103), .inr (.inl 0), .inr (.inl 0), .inl k, .inr (.inr 103)]) rfl ?_
                  refine jw_W_gf rfl rfl rfl ?_
                  show jw_W (js_S n) _ md_237 70 [some (.inr (.inr 103)), some (.inl k), some (.inl (jm_b1 σ0 k)), some (.inl (σ0 103 3))] [.inr (.inr 106), .inr (.inl 0), .inr (.inl 0), .inl k, .inr (.inr 103)] σ _
                  refine jw_W_n 1 (i' := 71) (ls' := [some (.inr (.inr 103)), some (.inl k), some (.inl (jm_b1 σ0 k)), some (.inl (σ0 103 3))]) (st' := [.inl 2, .inr (.inr 106), .inr (.inl 0), .inr (.inl 0), .inl k, .inr (.inr 103)]) rfl ?_
                  refine jw_W_ia rfl rfl (by omega) (by omega) (by omega) ?_
                  show jw_W (js_S n) _ md_237 72 [some (.inr (.inr 103)), some (.inl k), some (.inl (jm_b1 σ0 k)), some (.inl (σ0 103 3))] [.inl (σ 106 2), .inr (.inl 0), .inr (.inl 0), .inl k, .inr (.inr 103)] σ _
                  rw [e106]
                  refine jw_W_i2l rfl (by unfold jw_rg; omega) ?_
                  refine jw_W_n 3 (i' := 77) (ls' := [some (.inr (.inr 103)), some (.inl k), some (.inl (jm_b1 σ0 k)), some (.inl (σ0 103 3))]) (st' := [.inl (jm_b1 σ0 k), .inr (.inl 1), .inr (.inl (σ0 106 2)), .inr (.inl 0), .inr (.inl 0), .inl k, .inr (.inr 103)]) rfl ?_
                  refine jw_W_call (as := [.inr (.inr 103), .inl k, .inr (.inl 0), .inr (.inl 0), .inr (.inl (σ0 106 2)), .inr (.inl 1), .inl (jm_b1 σ0 k)]) (rest := []) rfl rfl rfl rfl (Nat.le_of_ble_eq_true rfl) (.inr rfl) (jm_laysPoint2 (by omega) (by omega) (by unfold jm_bg; omega) (by unfold jm_bg; omega) (by unfold jm_bg; omega) (by omega) (by unfold jm_bg; omega)) (by omega) ?_ rfl
                  rintro r1 σ1 ⟨rfl, hs⟩
                  rw [hs]
                  show jw_W (js_S n) _ md_237 78 [some (.inr (.inr 103)), some (.inl k), some (.inl (jm_b1 σ0 k)), some (.inl (σ0 103 3))] [] ((jm_lpp σ k (ge_pp (0, 0, σ0 106 2, 1)) (jm_b1 σ0 k))) _
                  refine jw_W_n 2 (i' := 8) (ls' := [some (.inr (.inr 103)), some (.inl (k + 1)), some (.inl (jm_b1 σ0 k)), some (.inl (σ0 103 3))]) (st' := []) rfl ?_
                  exact ih (by omega) (jm_bI_s hI (by unfold jm_bx; first | rw [if_pos (by assumption)]; rfl | rw [if_neg (by assumption)]) (by unfold jm_bx; first | rw [if_pos (by assumption)]; rfl | rw [if_neg (by assumption)]) (by unfold jm_bx; first | rw [if_pos (by assumption)]; rfl | rw [if_neg (by assumption)]))
              · rw [hs]
                show jw_W (js_S n) _ md_237 67 [some (.inr (.inr 103)), some (.inl k), some (.inl (jm_b1 σ0 k)), some (.inl (σ0 103 3))] [.inl 0, .inr (.inl 0), .inr (.inl 0), .inl k, .inr (.inr 103)] σ _
                refine jw_W_if rfl (by unfold jw_rg; omega) (fun hc14 => ?_) (fun hc14 => ?_)
                · clear hc14
                  refine jw_W_n 3 (i' := 77) (ls' := [some (.inr (.inr 103)), some (.inl k), some (.inl (jm_b1 σ0 k)), some (.inl (σ0 103 3))]) (st' := [.inl (jm_b1 σ0 k), .inr (.inl 1), .inr (.inl 0), .inr (.inl 0), .inr (.inl 0), .inl k, .inr (.inr 103)]) rfl ?_
                  refine jw_W_call (as := [.inr (.inr 103), .inl k, .inr (.inl 0), .inr (.inl 0), .inr (.inl 0), .inr (.inl 1), .inl (jm_b1 σ0 k)]) (rest := []) rfl rfl rfl rfl (Nat.le_of_ble_eq_true rfl) (.inr rfl) (jm_laysPoint2 (by omega) (by omega) (by unfold jm_bg; omega) (by unfold jm_bg; omega) (by unfold jm_bg; omega) (by omega) (by unfold jm_bg; omega)) (by omega) ?_ rfl
                  rintro r1 σ1 ⟨rfl, hs⟩
                  rw [hs]
                  show jw_W (js_S n) _ md_237 78 [some (.inr (.inr 103)), some (.inl k), some (.inl (jm_b1 σ0 k)), some (.inl (σ0 103 3))] [] ((jm_lpp σ k (ge_pp (0, 0, 0, 1)) (jm_b1 σ0 k))) _
                  refine jw_W_n 2 (i' := 8) (ls' := [some (.inr (.inr 103)), some (.inl (k + 1)), some (.inl (jm_b1 σ0 k)), some (.inl (σ0 103 3))]) (st' := []) rfl ?_
                  exact ih (by omega) (jm_bI_s hI (by unfold jm_bx; first | rw [if_pos (by assumption)]; rfl | rw [if_neg (by assumption)]) (by unfold jm_bx; first | rw [if_pos (by assumption)]; rfl | rw [if_neg (by assumption)]) (by unfold jm_bx; first | rw [if_pos (by assumption)]; rfl | rw [if_neg (by assumption)]))
                · exact absurd hc14 (show ¬ ¬ ((0 : Int) = 0) by omega)
            · exact absurd hc12 (show ¬ ¬ ((0 : Int) = 0) by omega)
        · exact absurd hc8 (show ¬ ¬ ((0 : Int) = 0) by omega)
theorem jm_beginsBody {n : Nat} {σ : jw_H} (hP : jm_Pb σ) (hN : jm_Ns σ) : jw_T (js_S n) 3 237 [.inr (.inr 103)] σ (fun r σ' => r = none ∧ ∃ σ1, jm_bI σ σ1 ((2 ^ (σ 103 3).toNat : Nat) : Int) ((2 ^ (σ 103 3).toNat : Nat) : Int) ∧ jm_nl σ1 σ' (σ 103 5 + 2 * σ 103 3)) := by
  refine jw_T_of (D := 2) (M := mm_237) rfl (Nat.le_of_ble_eq_true rfl) (ls0 := [some (.inr (.inr 103)), none, none, none]) rfl ?_ (by rintro _ _ ⟨rfl, -⟩; rfl)
  have hPq := hP.1
  have hm8 : ((2 ^ (σ 103 3).toNat : Nat) : Int) ≤ 8 := by
    have h : (σ 103 3).toNat = 1 ∨ (σ 103 3).toNat = 2 ∨ (σ 103 3).toNat = 3 := by omega
    rcases h with h | h | h <;> rw [h] <;> decide
  refine jw_W_n 3 (i' := 3) (ls' := [some (.inr (.inr 103)), none, none, none]) (st' := [.inr (.inr 103), .inl 1, .inr (.inr 103)]) rfl ?_
  refine jw_W_gf rfl rfl rfl ?_
  show jw_W (js_S n) _ md_237 4 [some (.inr (.inr 103)), none, none, none] [.inl (σ 103 3), .inl 1, .inr (.inr 103)] σ _
  refine jw_W_n 1 (i' := 5) (ls' := [some (.inr (.inr 103)), none, none, none]) (st' := [.inl (jw_shl 1 (σ 103 3)), .inr (.inr 103)]) rfl ?_
  rw [jb_shl1 (by omega) (by omega)]
  refine jw_W_pf (a := ((2 ^ (σ 103 3).toNat : Nat) : Int)) rfl (by omega) rfl rfl rfl rfl rfl ?_
  refine jw_W_n 2 (i' := 8) (ls' := [some (.inr (.inr 103)), some (.inl 0), none, none]) (st' := []) rfl ?_
  refine jm_boxo (D := 2) (m := ((2 ^ (σ 103 3).toNat : Nat) : Int)) (by omega) hP hm8 (fun σ1 l2 l3 hI => ?_) (2 ^ (σ 103 3).toNat) (k := 0) (by omega) (by omega) ⟨jm_fr_up (jm_fr_rf σ) (by omega), jw_up_eq _ _ _ _, fun i i0 i1 => by omega⟩
  refine jw_W_n 2 (i' := 82) (ls' := [some (.inr (.inr 103)), some (.inl 0), l2, l3]) (st' := []) rfl ?_
  have hP1 : jm_Pb σ1 := jm_Pb_fr (fun j hj => hI.1.2 j (by omega)) (hI.1.1 104 (by omega) (by omega)) (hI.1.1 105 (by omega) (by omega)) (hI.1.1 106 (by omega) (by omega)) hP
  have hN1 := (jm_fr_N hI.1).2.2.1 hN
  refine jm_normals (D := 2) (by omega) hP1 (fun σ2 h2 => ⟨rfl, σ1, hI, ?_⟩) (σ1 103 5 + 2 * σ1 103 3).toNat (k := 0) (by omega) (by have := hP1.1; have := hP1.2.2.1; omega) ⟨fun _ _ => rfl, hN1, fun i i0 i1 => by omega⟩
  have e3 : σ1 103 3 = σ 103 3 := hI.1.2 3 (by omega)
  have e5 : σ1 103 5 = σ 103 5 := hI.1.2 5 (by omega)
  rw [e3, e5] at h2
  exact h2

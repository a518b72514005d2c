/-! ===== a term: purely, and the class's ===== -/
def jk_tk (x : Int) : Int := if x = 50 ∨ x = 51 then 1 else 0
def jk_tc (x : Int) : Int := if x = 50 ∨ x = 51 then x - 48 else 1
/-- a term with a sign: fault, the place behind it, the sums by quantity -/
noncomputable def jk_trm (b : Int → Int) (m q s : Int) (t : Int → Int) (i : Int) : Int × Int × (Int → Int) :=
  @ite _ (jk_let (jk_h b m (i + jk_tk (jk_h b m i)))) (Classical.propDecidable _)
    (if jk_h b m (i + jk_tk (jk_h b m i)) - 120 < q then
      if -3 ≤ t (jk_h b m (i + jk_tk (jk_h b m i)) - 120) + s * jk_tc (jk_h b m i) ∧ t (jk_h b m (i + jk_tk (jk_h b m i)) - 120) + s * jk_tc (jk_h b m i) ≤ 3 then
        (0, i + jk_tk (jk_h b m i) + 1, fun j => if j = jk_h b m (i + jk_tk (jk_h b m i)) - 120 then t j + s * jk_tc (jk_h b m i) else t j)
      else (-1000 * 3 - (i + jk_tk (jk_h b m i)), i, t)
    else (-1000 * 7 - (i + jk_tk (jk_h b m i)), i, t))
    (-1000 * 1 - (i + jk_tk (jk_h b m i)), i, t)
theorem jk_cf_k {x c k : Int} (h : jk_cf x c k) : jk_tk x = k ∧ jk_tc x = c := by
  unfold jk_tk jk_tc
  rcases h with ⟨h1, h2, h3⟩ | ⟨h1, h2, h3⟩
  · rw [if_pos h1, if_pos h1]
    exact ⟨h3.symm, h2.symm⟩
  · rw [if_neg h1, if_neg h1]
    exact ⟨h3.symm, h2.symm⟩
section JKT
variable {b : Int → Int} {m q s : Int} {t : Int → Int} {i c k : Int}
theorem jk_trm_1 (hc : jk_cf (jk_h b m i) c k) (h : ¬ jk_let (jk_h b m (i + k))) : (jk_trm b m q s t i).1 = -1000 * 1 - (i + k) := by
  unfold jk_trm
  rw [(jk_cf_k hc).1, if_neg h]
theorem jk_trm_7 (hc : jk_cf (jk_h b m i) c k) (h : jk_let (jk_h b m (i + k))) (hq : ¬ (jk_h b m (i + k) - 120 < q)) : (jk_trm b m q s t i).1 = -1000 * 7 - (i + k) := by
  unfold jk_trm
  rw [(jk_cf_k hc).1, if_pos h, if_neg hq]
theorem jk_trm_3 (hc : jk_cf (jk_h b m i) c k) (h : jk_let (jk_h b m (i + k))) (hq : jk_h b m (i + k) - 120 < q) (hr : ¬ (-3 ≤ t (jk_h b m (i + k) - 120) + s * c ∧ t (jk_h b m (i + k) - 120) + s * c ≤ 3)) : (jk_trm b m q s t i).1 = -1000 * 3 - (i + k) := by
  unfold jk_trm
  rw [(jk_cf_k hc).1, (jk_cf_k hc).2, if_pos h, if_pos hq, if_neg hr]
theorem jk_trm_0 (hc : jk_cf (jk_h b m i) c k) (h : jk_let (jk_h b m (i + k))) (hq : jk_h b m (i + k) - 120 < q) (hr : -3 ≤ t (jk_h b m (i + k) - 120) + s * c ∧ t (jk_h b m (i + k) - 120) + s * c ≤ 3) : jk_trm b m q s t i = (0, i + k + 1, fun j => if j = jk_h b m (i + k) - 120 then t j + s * c else t j) := by
  unfold jk_trm
  rw [(jk_cf_k hc).1, (jk_cf_k hc).2, if_pos h, if_pos hq, if_pos hr]
end JKT
theorem jk_cf_ex (x : Int) : ∃ c k, jk_cf x c k ∧ 1 ≤ c ∧ c ≤ 3 ∧ 0 ≤ k ∧ k ≤ 1 := by
  by_cases h : x = 50 ∨ x = 51
  · exact ⟨x - 48, 1, .inl ⟨h, rfl, rfl⟩, by omega⟩
  · exact ⟨1, 0, .inr ⟨h, rfl, rfl⟩, by omega⟩
/-- a good term stays in range, and goes on -/
theorem jk_trm_ok {b : Int → Int} {m q s : Int} {t : Int → Int} {i : Int} (ht : ∀ j, 0 ≤ j → j < 3 → -3 ≤ t j ∧ t j ≤ 3) (h : (jk_trm b m q s t i).1 = 0) (i0 : 0 ≤ i) : i < (jk_trm b m q s t i).2.1 ∧ ∀ j, 0 ≤ j → j < 3 → -3 ≤ (jk_trm b m q s t i).2.2 j ∧ (jk_trm b m q s t i).2.2 j ≤ 3 := by
  obtain ⟨c, k, hc, c1, c3, k0, k1⟩ := jk_cf_ex (jk_h b m i)
  by_cases hl : jk_let (jk_h b m (i + k))
  · by_cases hq : jk_h b m (i + k) - 120 < q
    · by_cases hr : -3 ≤ t (jk_h b m (i + k) - 120) + s * c ∧ t (jk_h b m (i + k) - 120) + s * c ≤ 3
      · rw [jk_trm_0 hc hl hq hr]
        refine ⟨by show i < i + k + 1; omega, fun j j0 j1 => ?_⟩
        show -3 ≤ (if j = jk_h b m (i + k) - 120 then t j + s * c else t j) ∧ (if j = jk_h b m (i + k) - 120 then t j + s * c else t j) ≤ 3
        split
        · rename_i hj
          rw [hj]
          exact hr
        · exact ht j j0 j1
      · have := jk_trm_3 hc hl hq hr
        omega
    · have := jk_trm_7 (s := s) (t := t) hc hl hq
      omega
  · have := jk_trm_1 (q := q) (s := s) (t := t) hc hl
    omega
section JKE
variable {n o : Nat} {b : Int → Int} {m : Int} {σ τ : jw_H} {w : Nat} {a s v x : Int} {T : Int × Int × (Int → Int)}
/-- what a step on the sums in a row leaves -/
def jk_R (n o : Nat) (b : Int → Int) (m : Int) (σ : jw_H) (w : Nat) (a s : Int) (T : Int × Int × (Int → Int)) (σ' : jw_H) : Prop := jk_X n o b m σ' ∧ jk_D o σ σ' ∧ (∀ c, c ≠ 34 → c ≠ w → σ' c = σ c) ∧ (∀ j, j < a ∨ a + 2 < j → σ' w j = σ w j) ∧ (σ 34 2 = 0 → σ' 34 2 = T.1 ∧ (T.1 = 0 → σ' 34 0 = T.2.1 ∧ ∀ j, 0 ≤ j → j < 3 → σ' w (a + j) = s * T.2.2 j))
theorem jk_tendN (hE : jk_E n o b m σ τ) (hw : o < w ∧ w ≤ o + 5) (hv : 0 ≤ v ∧ v < 3) (hF : σ 34 2 = 0 → τ 34 2 = T.1 ∧ (T.1 = 0 → τ 34 0 = T.2.1 ∧ ∀ j, 0 ≤ j → j < 3 → (if j = v then x else τ w (a + j)) = s * T.2.2 j)) : jk_R n o b m σ w a s T (jw_up τ w (a + v) x) := by
  have hp := hE.1.1.1
  have hr := jk_XD_row hE.1 hw (a + v) x
  refine ⟨hr.1, jk_D_tr hE.2.1 hr.2, fun c c1 c2 => by rw [jw_up_out _ _ _ c2]; exact hE.2.2 c c1, fun j hj => by rw [jw_up_ne _ (by omega), hE.2.2 w (by omega)], fun hz => ?_⟩
  obtain ⟨f1, f2⟩ := hF hz
  refine ⟨by rw [jw_up_out _ _ _ (by omega)]; exact f1, fun hT => ⟨by rw [jw_up_out _ _ _ (by omega)]; exact (f2 hT).1, fun j j0 j1 => ?_⟩⟩
  rw [← (f2 hT).2 j j0 j1]
  by_cases hj : j = v
  · rw [if_pos hj, hj, jw_up_eq]
  · rw [if_neg hj, jw_up_ne _ (by omega)]
theorem jk_tendF {υ : jw_H} {pl : Int} (hE : jk_E n o b m σ τ) (hw : o < w ∧ w ≤ o + 5) (hv : 0 ≤ v ∧ v < 3) (hυ : jk_E n o b m (jw_up τ w (a + v) x) υ) (h2 : jw_up τ w (a + v) x 34 2 = 0 → υ 34 2 = -1000 * 3 - pl) (hp0 : 0 ≤ pl) (hF : σ 34 2 = 0 → (τ 34 2 = T.1 ∧ T.1 ≠ 0) ∨ (τ 34 2 = 0 ∧ T.1 = -1000 * 3 - pl)) : jk_R n o b m σ w a s T υ := by
  have hp := hE.1.1.1
  have hr := jk_XD_row hE.1 hw (a + v) x
  have e2 : jw_up τ w (a + v) x 34 2 = τ 34 2 := by rw [jw_up_out _ _ _ (by omega)]
  refine ⟨hυ.1, jk_D_tr hE.2.1 (jk_D_tr hr.2 hυ.2.1), fun c c1 c2 => by rw [hυ.2.2 c c1, jw_up_out _ _ _ c2]; exact hE.2.2 c c1, fun j hj => by rw [hυ.2.2 w (by omega), jw_up_ne _ (by omega), hE.2.2 w (by omega)], fun hz => ?_⟩
  have hst := hυ.2.1.2.2.1
  rcases hF hz with ⟨f1, f2⟩ | ⟨f1, f2⟩
  · have e3 := hst (by rw [e2, f1]; exact f2)
    exact ⟨by rw [e3, e2]; exact f1, fun hT => absurd hT f2⟩
  · have e3 := h2 (by rw [e2]; exact f1)
    exact ⟨by rw [e3, f2], fun hT => by omega⟩
end JKE
theorem jk_readTerm {n : Nat} {σ : jw_H} {o : Nat} {b : Int → Int} {m : Int} (hX : jk_X n o b m σ) {w L : Nat} (hw : 13 ≤ w ∧ (js_S n)[w]? = some (.inr (0, L))) (hwo : o < w ∧ w ≤ o + 5) {a s s' sg : Int} {t : Int → Int} (ha : 0 ≤ a ∧ a + 2 < (L : Int) ∧ L ≤ 12) (hs0 : s = 1 ∨ s = -1) (hs1 : s' = 1 ∨ s' = -1) (hsg : sg = s * s') (htw : ∀ j, 0 ≤ j → j < 3 → σ w (a + j) = s * t j ∧ -3 ≤ t j ∧ t j ≤ 3)  : jw_T (js_S n) 3 87 [.inr (.inr 33), .inr (.inr w), .inl a, .inl sg] σ (fun r σ' => r = none ∧ jk_R n o b m σ w a s (jk_trm b m (σ o 0) s' t (σ 34 0)) σ') := by
  refine jw_T_of (D := 2) (M := mm_87) rfl (Nat.le_of_ble_eq_true rfl) (ls0 := [some (.inr (.inr 33)), some (.inr (.inr w)), some (.inl a), some (.inl sg), none, none, none]) rfl ?_ (by rintro _ _ ⟨rfl, -⟩; rfl)
  have h4 := hX.2.2.2.2.1
  have h5 := hX.2.2.2.2.2.1
  have hpo := hX.1.1
  have hh0 := jk_X_h hX h4.1
  refine jw_W_n 3 (i' := 3) (ls' := [some (.inr (.inr 33)), some (.inr (.inr w)), some (.inl a), some (.inl sg), some (.inl 1), none, none]) (st' := [.inr (.inr 33)]) rfl ?_
  refine jw_W_gf rfl rfl rfl ?_
  show jw_W (js_S n) _ md_87 4 [some (.inr (.inr 33)), some (.inr (.inr w)), some (.inl a), some (.inl sg), some (.inl 1), none, none] [.inr (.inr 34)] σ _
  refine jw_W_call (as := [.inr (.inr 34)]) (rest := []) rfl rfl rfl rfl (Nat.le_of_ble_eq_true rfl) (.inr rfl) (jk_hereX hX) (by omega) ?_ rfl
  rintro r1 σz ⟨rfl, hs⟩
  rw [hs]
  show jw_W (js_S n) _ md_87 5 [some (.inr (.inr 33)), some (.inr (.inr w)), some (.inl a), some (.inl sg), some (.inl 1), none, none] [.inl (jk_h b m (σ 34 0))] σ _
  refine jw_W_n 1 (i' := 6) (ls' := [some (.inr (.inr 33)), some (.inr (.inr w)), some (.inl a), some (.inl sg), some (.inl 1), none, none]) (st' := [.inl 50, .inl (jk_h b m (σ 34 0))]) rfl ?_
  refine jw_W_ic rfl (by unfold jw_rg; omega) (by unfold jw_rg; omega) (fun hc1 => ?_) (fun hc1 => ?_)
  · have hc1 : (jk_h b m (σ 34 0)) = 50 := hc1
    refine jw_W_n 1 (i' := 13) (ls' := [some (.inr (.inr 33)), some (.inr (.inr w)), some (.inl a), some (.inl sg), some (.inl 1), none, none]) (st' := [.inr (.inr 33)]) rfl ?_
    refine jw_W_gf rfl rfl rfl ?_
    show jw_W (js_S n) _ md_87 14 [some (.inr (.inr 33)), some (.inr (.inr w)), some (.inl a), some (.inl sg), some (.inl 1), none, none] [.inr (.inr 34)] σ _
    refine jw_W_call (as := [.inr (.inr 34)]) (rest := []) rfl rfl rfl rfl (Nat.le_of_ble_eq_true rfl) (.inr rfl) (jk_hereX hX) (by omega) ?_ rfl
    rintro r1 σz ⟨rfl, hs⟩
    rw [hs]
    show jw_W (js_S n) _ md_87 15 [some (.inr (.inr 33)), some (.inr (.inr w)), some (.inl a), some (.inl sg), some (.inl 1), none, none] [.inl (jk_h b m (σ 34 0))] σ _
    refine jw_W_n 4 (i' := 19) (ls' := [some (.inr (.inr 33)), some (.inr (.inr w)), some (.inl a), some (.inl sg), some (.inl ((jk_h b m (σ 34 0)) - 48)), none, none]) (st' := [.inr (.inr 33)]) rfl ?_
    refine jw_W_gf rfl rfl rfl ?_
    show jw_W (js_S n) _ md_87 20 [some (.inr (.inr 33)), some (.inr (.inr w)), some (.inl a), some (.inl sg), some (.inl ((jk_h b m (σ 34 0)) - 48)), none, none] [.inr (.inr 34)] σ _
    refine jw_W_n 1 (i' := 21) (ls' := [some (.inr (.inr 33)), some (.inr (.inr w)), some (.inl a), some (.inl sg), some (.inl ((jk_h b m (σ 34 0)) - 48)), none, none]) (st' := [.inr (.inr 34), .inr (.inr 34)]) rfl ?_
    refine jw_W_gf rfl rfl rfl ?_
    show jw_W (js_S n) _ md_87 22 [some (.inr (.inr 33)), some (.inr (.inr w)), some (.inl a), some (.inl sg), some (.inl ((jk_h b m (σ 34 0)) - 48)), none, none] [.inl (σ 34 0), .inr (.inr 34)] σ _
    refine jw_W_n 2 (i' := 24) (ls' := [some (.inr (.inr 33)), some (.inr (.inr w)), some (.inl a), some (.inl sg), some (.inl ((jk_h b m (σ 34 0)) - 48)), none, none]) (st' := [.inl (σ 34 0 + 1), .inr (.inr 34)]) rfl ?_
    refine jw_W_pf (a := σ 34 0 + 1) rfl (by omega) rfl rfl rfl rfl rfl ?_
    obtain ⟨σa, hsa⟩ : ∃ s, s = jw_up σ 34 0 (σ 34 0 + 1) := ⟨_, rfl⟩
    show jw_W (js_S n) _ _ _ _ _ (jw_up σ 34 0 (σ 34 0 + 1)) _
    rw [← hsa]
    have hEa : jk_E n o b m σ σa := by rw [hsa]; exact jk_E_at hX (hh0.2.2 (by omega))
    have hXa := hEa.1
    have ea0 : σa 34 0 = σ 34 0 + 1 := by rw [hsa, jw_up_eq]
    have ea2 : σa 34 2 = σ 34 2 := by rw [hsa, jw_up_ne _ (by omega)]
    have eao : σa o 0 = σ o 0 := by rw [hsa, jw_up_out _ _ _ (by omega)]
    refine jw_W_n 1 (i' := 26) (ls' := [some (.inr (.inr 33)), some (.inr (.inr w)), some (.inl a), some (.inl sg), some (.inl ((jk_h b m (σ 34 0)) - 48)), none, none]) (st' := [.inr (.inr 33)]) rfl ?_
    refine jw_W_gf rfl rfl rfl ?_
    show jw_W (js_S n) _ md_87 27 [some (.inr (.inr 33)), some (.inr (.inr w)), some (.inl a), some (.inl sg), some (.inl ((jk_h b m (σ 34 0)) - 48)), none, none] [.inr (.inr 34)] σa _
    refine jw_W_gf rfl rfl rfl ?_
    show jw_W (js_S n) _ md_87 28 [some (.inr (.inr 33)), some (.inr (.inr w)), some (.inl a), some (.inl sg), some (.inl ((jk_h b m (σ 34 0)) - 48)), none, none] [.inl (σa 34 0)] σa _
    refine jw_W_n 2 (i' := 30) (ls' := [some (.inr (.inr 33)), some (.inr (.inr w)), some (.inl a), some (.inl sg), some (.inl ((jk_h b m (σ 34 0)) - 48)), some (.inl (σa 34 0)), none]) (st' := [.inr (.inr 33)]) rfl ?_
    refine jw_W_call (as := [.inr (.inr 33)]) (rest := []) rfl rfl rfl rfl (Nat.le_of_ble_eq_true rfl) (.inr rfl) (jk_readQX hXa) (by omega) ?_ rfl
    rintro r1 σz (⟨v, rfl, hv, hl, hE, h2⟩ | ⟨v, rfl, hv, hl, hq, hE, h2⟩ | ⟨v, rfl, hv, hl, hq, hE, h2, h0⟩)
    · rename jw_H => σq
      have epl : σ 34 0 + 1 = σ 34 0 + 1 := by omega
      rw [ea0] at hl
      rw [epl] at hl
      have hcf : jk_cf (jk_h b m (σ 34 0)) ((jk_h b m (σ 34 0) - 48)) 1 := by unfold jk_cf; omega
      have hEq : jk_E n o b m σ σq := jk_E_tr hEa hE
      have eqw : σq w = σ w := hEq.2.2 w (by omega)
      have hv3 : 0 ≤ v ∧ v < 3 := by omega
      have htv := htw v hv3.1 hv3.2
      have hx6 : σq w (a + v) + sg * (jk_h b m (σ 34 0) - 48) = s * (t v + s' * (jk_h b m (σ 34 0) - 48)) := by rw [eqw, htv.1, hsg, Int.mul_add, Int.mul_assoc]
      have hc13 : 1 ≤ (jk_h b m (σ 34 0) - 48) ∧ (jk_h b m (σ 34 0) - 48) ≤ 3 := by omega
      have hx7 : -6 ≤ t v + s' * (jk_h b m (σ 34 0) - 48) ∧ t v + s' * (jk_h b m (σ 34 0) - 48) ≤ 6 := by rcases hs1 with e | e <;> rw [e] <;> omega
      have hx8 : (-6 ≤ σq w (a + v) + sg * (jk_h b m (σ 34 0) - 48) ∧ σq w (a + v) + sg * (jk_h b m (σ 34 0) - 48) ≤ 6) ∧ ((-3 ≤ σq w (a + v) + sg * (jk_h b m (σ 34 0) - 48) ∧ σq w (a + v) + sg * (jk_h b m (σ 34 0) - 48) ≤ 3) ↔ (-3 ≤ t v + s' * (jk_h b m (σ 34 0) - 48) ∧ t v + s' * (jk_h b m (σ 34 0) - 48) ≤ 3)) := by rw [hx6]; rcases hs0 with e | e <;> rw [e] <;> omega
      have hq2 : σ 34 2 = 0 → σq 34 2 = -1000 * 1 - (σ 34 0 + 1) := fun hz => by have hh := h2 (by rw [ea2]; exact hz); omega
      have hT : (jk_trm b m (σ o 0) s' t (σ 34 0)).1 = -1000 * 1 - (σ 34 0 + 1) := jk_trm_1 hcf hl
      have hbad : True := trivial
      show jw_W (js_S n) _ md_87 31 [some (.inr (.inr 33)), some (.inr (.inr w)), some (.inl a), some (.inl sg), some (.inl ((jk_h b m (σ 34 0)) - 48)), some (.inl (σa 34 0)), none] [.inl v] σq _
      refine jw_W_n 6 (i' := 37) (ls' := [some (.inr (.inr 33)), some (.inr (.inr w)), some (.inl a), some (.inl sg), some (.inl ((jk_h b m (σ 34 0)) - 48)), some (.inl (σa 34 0)), some (.inl v)]) (st' := [.inl (a + v), .inr (.inr w), .inl (a + v), .inr (.inr w)]) rfl ?_
      refine jw_W_ia rfl hw.2 (by omega) (by omega) (by omega) ?_
      show jw_W (js_S n) _ md_87 38 [some (.inr (.inr 33)), some (.inr (.inr w)), some (.inl a), some (.inl sg), some (.inl ((jk_h b m (σ 34 0)) - 48)), some (.inl (σa 34 0)), some (.inl v)] [.inl (σq w (a + v)), .inl (a + v), .inr (.inr w)] σq _
      refine jw_W_n 4 (i' := 42) (ls' := [some (.inr (.inr 33)), some (.inr (.inr w)), some (.inl a), some (.inl sg), some (.inl ((jk_h b m (σ 34 0)) - 48)), some (.inl (σa 34 0)), some (.inl v)]) (st' := [.inl ((σq w (a + v)) + (sg * ((jk_h b m (σ 34 0)) - 48))), .inl (a + v), .inr (.inr w)]) rfl ?_
      refine jw_W_is rfl (by omega) hw.2 (by omega) (by omega) (by omega) ?_
      refine jw_W_n 4 (i' := 47) (ls' := [some (.inr (.inr 33)), some (.inr (.inr w)), some (.inl a), some (.inl sg), some (.inl ((jk_h b m (σ 34 0)) - 48)), some (.inl (σa 34 0)), some (.inl v)]) (st' := [.inl (a + v), .inr (.inr w)]) rfl ?_
      refine jw_W_ia rfl hw.2 (by omega) (by omega) (by omega) ?_
      show jw_W (js_S n) _ md_87 48 [some (.inr (.inr 33)), some (.inr (.inr w)), some (.inl a), some (.inl sg), some (.inl ((jk_h b m (σ 34 0)) - 48)), some (.inl (σa 34 0)), some (.inl v)] [.inl ((jw_up σq w (a + v) ((σq w (a + v)) + (sg * ((jk_h b m (σ 34 0)) - 48)))) w (a + v))] ((jw_up σq w (a + v) ((σq w (a + v)) + (sg * ((jk_h b m (σ 34 0)) - 48))))) _
      rw [jw_up_eq]
      refine jw_W_abs rfl rfl (by unfold jw_rg; omega) (Nat.le_of_ble_eq_true rfl) ?_
      generalize hab : (if 0 ≤ (σq w (a + v)) + (sg * ((jk_h b m (σ 34 0)) - 48)) then (σq w (a + v)) + (sg * ((jk_h b m (σ 34 0)) - 48)) else -((σq w (a + v)) + (sg * ((jk_h b m (σ 34 0)) - 48)))) = ab
      have hab2 : (0 ≤ (σq w (a + v)) + (sg * ((jk_h b m (σ 34 0)) - 48)) ∧ ab = (σq w (a + v)) + (sg * ((jk_h b m (σ 34 0)) - 48))) ∨ ((σq w (a + v)) + (sg * ((jk_h b m (σ 34 0)) - 48)) < 0 ∧ ab = -((σq w (a + v)) + (sg * ((jk_h b m (σ 34 0)) - 48)))) := by
        by_cases hz : 0 ≤ (σq w (a + v)) + (sg * ((jk_h b m (σ 34 0)) - 48))
        · exact .inl ⟨hz, by rw [← hab, if_pos hz]⟩
        · exact .inr ⟨by omega, by rw [← hab, if_neg hz]⟩
      refine jw_W_n 1 (i' := 50) (ls' := [some (.inr (.inr 33)), some (.inr (.inr w)), some (.inl a), some (.inl sg), some (.inl ((jk_h b m (σ 34 0)) - 48)), some (.inl (σa 34 0)), some (.inl v)]) (st' := [.inl 3, .inl ab]) rfl ?_
      refine jw_W_ic rfl (by unfold jw_rg; omega) (by unfold jw_rg; omega) (fun hc2 => ?_) (fun hc2 => ?_)
      · have hc2 : ab ≤ 3 := hc2
        refine jw_W_re rfl ?_
        exact ⟨rfl, jk_tendN hEq hwo hv3 (fun hz => ⟨by have := hq2 hz; omega, fun hh => by omega⟩)⟩
      · have hc2 : ¬ (ab ≤ 3) := hc2
        refine jw_W_n 1 (i' := 52) (ls' := [some (.inr (.inr 33)), some (.inr (.inr w)), some (.inl a), some (.inl sg), some (.inl ((jk_h b m (σ 34 0)) - 48)), some (.inl (σa 34 0)), some (.inl v)]) (st' := [.inr (.inr 33)]) rfl ?_
        refine jw_W_gf rfl rfl rfl ?_
        show jw_W (js_S n) _ md_87 53 [some (.inr (.inr 33)), some (.inr (.inr w)), some (.inl a), some (.inl sg), some (.inl ((jk_h b m (σ 34 0)) - 48)), some (.inl (σa 34 0)), some (.inl v)] [.inr (.inr 34)] ((jw_up σq w (a + v) ((σq w (a + v)) + (sg * ((jk_h b m (σ 34 0)) - 48))))) _
        refine jw_W_n 2 (i' := 55) (ls' := [some (.inr (.inr 33)), some (.inr (.inr w)), some (.inl a), some (.inl sg), some (.inl ((jk_h b m (σ 34 0)) - 48)), some (.inl (σa 34 0)), some (.inl v)]) (st' := [.inl (σa 34 0), .inl 3, .inr (.inr 34)]) rfl ?_
        refine jw_W_call (as := [.inr (.inr 34), .inl 3, .inl (σa 34 0)]) (rest := []) rfl rfl rfl rfl (Nat.le_of_ble_eq_true rfl) (.inr rfl) (jk_failX (jk_XD_row hEq.1 hwo _ _).1 (by omega) (by omega)) (by omega) ?_ rfl
        rintro r1 σz ⟨rfl, hEf, hf0, hf2⟩
        rename jw_H => σf
        show jw_W (js_S n) _ md_87 56 [some (.inr (.inr 33)), some (.inr (.inr w)), some (.inl a), some (.inl sg), some (.inl ((jk_h b m (σ 34 0)) - 48)), some (.inl (σa 34 0)), some (.inl v)] [] σf _
        refine jw_W_re rfl ?_
        exact ⟨rfl, jk_tendF hEq hwo hv3 hEf hf2 (by omega) (fun hz => .inl ⟨by have := hq2 hz; omega, by omega⟩)⟩
    · rename jw_H => σq
      have epl : σ 34 0 + 1 = σ 34 0 + 1 := by omega
      rw [ea0] at hl hv
      rw [epl] at hl hv
      have hcf : jk_cf (jk_h b m (σ 34 0)) ((jk_h b m (σ 34 0) - 48)) 1 := by unfold jk_cf; omega
      have hEq : jk_E n o b m σ σq := jk_E_tr hEa hE
      have eqw : σq w = σ w := hEq.2.2 w (by omega)
      have hlu := hl
      unfold jk_let at hlu
      have hv3 : 0 ≤ v ∧ v < 3 := by omega
      have htv := htw v hv3.1 hv3.2
      have hx6 : σq w (a + v) + sg * (jk_h b m (σ 34 0) - 48) = s * (t v + s' * (jk_h b m (σ 34 0) - 48)) := by rw [eqw, htv.1, hsg, Int.mul_add, Int.mul_assoc]
      have hc13 : 1 ≤ (jk_h b m (σ 34 0) - 48) ∧ (jk_h b m (σ 34 0) - 48) ≤ 3 := by omega
      have hx7 : -6 ≤ t v + s' * (jk_h b m (σ 34 0) - 48) ∧ t v + s' * (jk_h b m (σ 34 0) - 48) ≤ 6 := by rcases hs1 with e | e <;> rw [e] <;> omega
      have hx8 : (-6 ≤ σq w (a + v) + sg * (jk_h b m (σ 34 0) - 48) ∧ σq w (a + v) + sg * (jk_h b m (σ 34 0) - 48) ≤ 6) ∧ ((-3 ≤ σq w (a + v) + sg * (jk_h b m (σ 34 0) - 48) ∧ σq w (a + v) + sg * (jk_h b m (σ 34 0) - 48) ≤ 3) ↔ (-3 ≤ t v + s' * (jk_h b m (σ 34 0) - 48) ∧ t v + s' * (jk_h b m (σ 34 0) - 48) ≤ 3)) := by rw [hx6]; rcases hs0 with e | e <;> rw [e] <;> omega
      have hq2 : σ 34 2 = 0 → σq 34 2 = -1000 * 7 - (σ 34 0 + 1) := fun hz => by have hh := h2 (by rw [ea2]; exact hz); omega
      rw [eao] at hq
      have hT : (jk_trm b m (σ o 0) s' t (σ 34 0)).1 = -1000 * 7 - (σ 34 0 + 1) := jk_trm_7 hcf hl (by omega)
      have hbad : True := trivial
      show jw_W (js_S n) _ md_87 31 [some (.inr (.inr 33)), some (.inr (.inr w)), some (.inl a), some (.inl sg), some (.inl ((jk_h b m (σ 34 0)) - 48)), some (.inl (σa 34 0)), none] [.inl v] σq _
      refine jw_W_n 6 (i' := 37) (ls' := [some (.inr (.inr 33)), some (.inr (.inr w)), some (.inl a), some (.inl sg), some (.inl ((jk_h b m (σ 34 0)) - 48)), some (.inl (σa 34 0)), some (.inl v)]) (st' := [.inl (a + v), .inr (.inr w), .inl (a + v), .inr (.inr w)]) rfl ?_
      refine jw_W_ia rfl hw.2 (by omega) (by omega) (by omega) ?_
      show jw_W (js_S n) _ md_87 38 [some (.inr (.inr 33)), some (.inr (.inr w)), some (.inl a), some (.inl sg), some (.inl ((jk_h b m (σ 34 0)) - 48)), some (.inl (σa 34 0)), some (.inl v)] [.inl (σq w (a + v)), .inl (a + v), .inr (.inr w)] σq _
      refine jw_W_n 4 (i' := 42) (ls' := [some (.inr (.inr 33)), some (.inr (.inr w)), some (.inl a), some (.inl sg), some (.inl ((jk_h b m (σ 34 0)) - 48)), some (.inl (σa 34 0)), some (.inl v)]) (st' := [.inl ((σq w (a + v)) + (sg * ((jk_h b m (σ 34 0)) - 48))), .inl (a + v), .inr (.inr w)]) rfl ?_
      refine jw_W_is rfl (by omega) hw.2 (by omega) (by omega) (by omega) ?_
      refine jw_W_n 4 (i' := 47) (ls' := [some (.inr (.inr 33)), some (.inr (.inr w)), some (.inl a), some (.inl sg), some (.inl ((jk_h b m (σ 34 0)) - 48)), some (.inl (σa 34 0)), some (.inl v)]) (st' := [.inl (a + v), .inr (.inr w)]) rfl ?_
      refine jw_W_ia rfl hw.2 (by omega) (by omega) (by omega) ?_
      show jw_W (js_S n) _ md_87 48 [some (.inr (.inr 33)), some (.inr (.inr w)), some (.inl a), some (.inl sg), some (.inl ((jk_h b m (σ 34 0)) - 48)), some (.inl (σa 34 0)), some (.inl v)] [.inl ((jw_up σq w (a + v) ((σq w (a + v)) + (sg * ((jk_h b m (σ 34 0)) - 48)))) w (a + v))] ((jw_up σq w (a + v) ((σq w (a + v)) + (sg * ((jk_h b m (σ 34 0)) - 48))))) _
      rw [jw_up_eq]
      refine jw_W_abs rfl rfl (by unfold jw_rg; omega) (Nat.le_of_ble_eq_true rfl) ?_
      generalize hab : (if 0 ≤ (σq w (a + v)) + (sg * ((jk_h b m (σ 34 0)) - 48)) then (σq w (a + v)) + (sg * ((jk_h b m (σ 34 0)) - 48)) else -((σq w (a + v)) + (sg * ((jk_h b m (σ 34 0)) - 48)))) = ab
      have hab2 : (0 ≤ (σq w (a + v)) + (sg * ((jk_h b m (σ 34 0)) - 48)) ∧ ab = (σq w (a + v)) + (sg * ((jk_h b m (σ 34 0)) - 48))) ∨ ((σq w (a + v)) + (sg * ((jk_h b m (σ 34 0)) - 48)) < 0 ∧ ab = -((σq w (a + v)) + (sg * ((jk_h b m (σ 34 0)) - 48)))) := by
        by_cases hz : 0 ≤ (σq w (a + v)) + (sg * ((jk_h b m (σ 34 0)) - 48))
        · exact .inl ⟨hz, by rw [← hab, if_pos hz]⟩
        · exact .inr ⟨by omega, by rw [← hab, if_neg hz]⟩
      refine jw_W_n 1 (i' := 50) (ls' := [some (.inr (.inr 33)), some (.inr (.inr w)), some (.inl a), some (.inl sg), some (.inl ((jk_h b m (σ 34 0)) - 48)), some (.inl (σa 34 0)), some (.inl v)]) (st' := [.inl 3, .inl ab]) rfl ?_
      refine jw_W_ic rfl (by unfold jw_rg; omega) (by unfold jw_rg; omega) (fun hc3 => ?_) (fun hc3 => ?_)
      · have hc3 : ab ≤ 3 := hc3
        refine jw_W_re rfl ?_
        exact ⟨rfl, jk_tendN hEq hwo hv3 (fun hz => ⟨by have := hq2 hz; omega, fun hh => by omega⟩)⟩
      · have hc3 : ¬ (ab ≤ 3) := hc3
        refine jw_W_n 1 (i' := 52) (ls' := [some (.inr (.inr 33)), some (.inr (.inr w)), some (.inl a), some (.inl sg), some (.inl ((jk_h b m (σ 34 0)) - 48)), some (.inl (σa 34 0)), some (.inl v)]) (st' := [.inr (.inr 33)]) rfl ?_
        refine jw_W_gf rfl rfl rfl ?_
        show jw_W (js_S n) _ md_87 53 [some (.inr (.inr 33)), some (.inr (.inr w)), some (.inl a), some (.inl sg), some (.inl ((jk_h b m (σ 34 0)) - 48)), some (.inl (σa 34 0)), some (.inl v)] [.inr (.inr 34)] ((jw_up σq w (a + v) ((σq w (a + v)) + (sg * ((jk_h b m (σ 34 0)) - 48))))) _
        refine jw_W_n 2 (i' := 55) (ls' := [some (.inr (.inr 33)), some (.inr (.inr w)), some (.inl a), some (.inl sg), some (.inl ((jk_h b m (σ 34 0)) - 48)), some (.inl (σa 34 0)), some (.inl v)]) (st' := [.inl (σa 34 0), .inl 3, .inr (.inr 34)]) rfl ?_
        refine jw_W_call (as := [.inr (.inr 34), .inl 3, .inl (σa 34 0)]) (rest := []) rfl rfl rfl rfl (Nat.le_of_ble_eq_true rfl) (.inr rfl) (jk_failX (jk_XD_row hEq.1 hwo _ _).1 (by omega) (by omega)) (by omega) ?_ rfl
        rintro r1 σz ⟨rfl, hEf, hf0, hf2⟩
        rename jw_H => σf
        show jw_W (js_S n) _ md_87 56 [some (.inr (.inr 33)), some (.inr (.inr w)), some (.inl a), some (.inl sg), some (.inl ((jk_h b m (σ 34 0)) - 48)), some (.inl (σa 34 0)), some (.inl v)] [] σf _
        refine jw_W_re rfl ?_
        exact ⟨rfl, jk_tendF hEq hwo hv3 hEf hf2 (by omega) (fun hz => .inl ⟨by have := hq2 hz; omega, by omega⟩)⟩
    · rename jw_H => σg
      have epl : σ 34 0 + 1 = σ 34 0 + 1 := by omega
      rw [ea0] at hl hv
      rw [epl] at hl hv
      have hcf : jk_cf (jk_h b m (σ 34 0)) ((jk_h b m (σ 34 0) - 48)) 1 := by unfold jk_cf; omega
      have hEq : jk_E n o b m σ σg := jk_E_tr hEa hE
      have eqw : σg w = σ w := hEq.2.2 w (by omega)
      have hlu := hl
      unfold jk_let at hlu
      have hv3 : 0 ≤ v ∧ v < 3 := by omega
      have htv := htw v hv3.1 hv3.2
      have hx6 : σg w (a + v) + sg * (jk_h b m (σ 34 0) - 48) = s * (t v + s' * (jk_h b m (σ 34 0) - 48)) := by rw [eqw, htv.1, hsg, Int.mul_add, Int.mul_assoc]
      have hc13 : 1 ≤ (jk_h b m (σ 34 0) - 48) ∧ (jk_h b m (σ 34 0) - 48) ≤ 3 := by omega
      have hx7 : -6 ≤ t v + s' * (jk_h b m (σ 34 0) - 48) ∧ t v + s' * (jk_h b m (σ 34 0) - 48) ≤ 6 := by rcases hs1 with e | e <;> rw [e] <;> omega
      have hx8 : (-6 ≤ σg w (a + v) + sg * (jk_h b m (σ 34 0) - 48) ∧ σg w (a + v) + sg * (jk_h b m (σ 34 0) - 48) ≤ 6) ∧ ((-3 ≤ σg w (a + v) + sg * (jk_h b m (σ 34 0) - 48) ∧ σg w (a + v) + sg * (jk_h b m (σ 34 0) - 48) ≤ 3) ↔ (-3 ≤ t v + s' * (jk_h b m (σ 34 0) - 48) ∧ t v + s' * (jk_h b m (σ 34 0) - 48) ≤ 3)) := by rw [hx6]; rcases hs0 with e | e <;> rw [e] <;> omega
      have hq2 : σg 34 2 = σ 34 2 := h2.trans ea2
      rw [eao] at hq
      have hq0 : σg 34 0 = σ 34 0 + 1 + 1 := by rw [h0]; omega
      have hgood : jk_h b m (σ 34 0 + 1) - 120 < σ o 0 := by omega
      show jw_W (js_S n) _ md_87 31 [some (.inr (.inr 33)), some (.inr (.inr w)), some (.inl a), some (.inl sg), some (.inl ((jk_h b m (σ 34 0)) - 48)), some (.inl (σa 34 0)), none] [.inl v] σg _
      refine jw_W_n 6 (i' := 37) (ls' := [some (.inr (.inr 33)), some (.inr (.inr w)), some (.inl a), some (.inl sg), some (.inl ((jk_h b m (σ 34 0)) - 48)), some (.inl (σa 34 0)), some (.inl v)]) (st' := [.inl (a + v), .inr (.inr w), .inl (a + v), .inr (.inr w)]) rfl ?_
      refine jw_W_ia rfl hw.2 (by omega) (by omega) (by omega) ?_
      show jw_W (js_S n) _ md_87 38 [some (.inr (.inr 33)), some (.inr (.inr w)), some (.inl a), some (.inl sg), some (.inl ((jk_h b m (σ 34 0)) - 48)), some (.inl (σa 34 0)), some (.inl v)] [.inl (σg w (a + v)), .inl (a + v), .inr (.inr w)] σg _
      refine jw_W_n 4 (i' := 42) (ls' := [some (.inr (.inr 33)), some (.inr (.inr w)), some (.inl a), some (.inl sg), some (.inl ((jk_h b m (σ 34 0)) - 48)), some (.inl (σa 34 0)), some (.inl v)]) (st' := [.inl ((σg w (a + v)) + (sg * ((jk_h b m (σ 34 0)) - 48))), .inl (a + v), .inr (.inr w)]) rfl ?_
      refine jw_W_is rfl (by omega) hw.2 (by omega) (by omega) (by omega) ?_
      refine jw_W_n 4 (i' := 47) (ls' := [some (.inr (.inr 33)), some (.inr (.inr w)), some (.inl a), some (.inl sg), some (.inl ((jk_h b m (σ 34 0)) - 48)), some (.inl (σa 34 0)), some (.inl v)]) (st' := [.inl (a + v), .inr (.inr w)]) rfl ?_
      refine jw_W_ia rfl hw.2 (by omega) (by omega) (by omega) ?_
      show jw_W (js_S n) _ md_87 48 [some (.inr (.inr 33)), some (.inr (.inr w)), some (.inl a), some (.inl sg), some (.inl ((jk_h b m (σ 34 0)) - 48)), some (.inl (σa 34 0)), some (.inl v)] [.inl ((jw_up σg w (a + v) ((σg w (a + v)) + (sg * ((jk_h b m (σ 34 0)) - 48)))) w (a + v))] ((jw_up σg w (a + v) ((σg w (a + v)) + (sg * ((jk_h b m (σ 34 0)) - 48))))) _
      rw [jw_up_eq]
      refine jw_W_abs rfl rfl (by unfold jw_rg; omega) (Nat.le_of_ble_eq_true rfl) ?_
      generalize hab : (if 0 ≤ (σg w (a + v)) + (sg * ((jk_h b m (σ 34 0)) - 48)) then (σg w (a + v)) + (sg * ((jk_h b m (σ 34 0)) - 48)) else -((σg w (a + v)) + (sg * ((jk_h b m (σ 34 0)) - 48)))) = ab
      have hab2 : (0 ≤ (σg w (a + v)) + (sg * ((jk_h b m (σ 34 0)) - 48)) ∧ ab = (σg w (a + v)) + (sg * ((jk_h b m (σ 34 0)) - 48))) ∨ ((σg w (a + v)) + (sg * ((jk_h b m (σ 34 0)) - 48)) < 0 ∧ ab = -((σg w (a + v)) + (sg * ((jk_h b m (σ 34 0)) - 48)))) := by
        by_cases hz : 0 ≤ (σg w (a + v)) + (sg * ((jk_h b m (σ 34 0)) - 48))
        · exact .inl ⟨hz, by rw [← hab, if_pos hz]⟩
        · exact .inr ⟨by omega, by rw [← hab, if_neg hz]⟩
      refine jw_W_n 1 (i' := 50) (ls' := [some (.inr (.inr 33)), some (.inr (.inr w)), some (.inl a), some (.inl sg), some (.inl ((jk_h b m (σ 34 0)) - 48)), some (.inl (σa 34 0)), some (.inl v)]) (st' := [.inl 3, .inl ab]) rfl ?_
      refine jw_W_ic rfl (by unfold jw_rg; omega) (by unfold jw_rg; omega) (fun hc4 => ?_) (fun hc4 => ?_)
      · have hc4 : ab ≤ 3 := hc4
        refine jw_W_re rfl ?_
        refine ⟨rfl, jk_tendN hEq hwo hv3 (fun hz => ?_)⟩
        rw [jk_trm_0 hcf hl hgood (by rw [← hv]; omega)]
        refine ⟨hq2.trans hz, fun _ => ⟨hq0, fun j j0 j1 => ?_⟩⟩
        show _ = s * (if j = _ then _ else _)
        rw [← hv, eqw]
        by_cases hj : j = v
        · rw [if_pos hj, if_pos hj, hj, ← eqw]
          exact hx6
        · rw [if_neg hj, if_neg hj]
          exact (htw j j0 j1).1
      · have hc4 : ¬ (ab ≤ 3) := hc4
        refine jw_W_n 1 (i' := 52) (ls' := [some (.inr (.inr 33)), some (.inr (.inr w)), some (.inl a), some (.inl sg), some (.inl ((jk_h b m (σ 34 0)) - 48)), some (.inl (σa 34 0)), some (.inl v)]) (st' := [.inr (.inr 33)]) rfl ?_
        refine jw_W_gf rfl rfl rfl ?_
        show jw_W (js_S n) _ md_87 53 [some (.inr (.inr 33)), some (.inr (.inr w)), some (.inl a), some (.inl sg), some (.inl ((jk_h b m (σ 34 0)) - 48)), some (.inl (σa 34 0)), some (.inl v)] [.inr (.inr 34)] ((jw_up σg w (a + v) ((σg w (a + v)) + (sg * ((jk_h b m (σ 34 0)) - 48))))) _
        refine jw_W_n 2 (i' := 55) (ls' := [some (.inr (.inr 33)), some (.inr (.inr w)), some (.inl a), some (.inl sg), some (.inl ((jk_h b m (σ 34 0)) - 48)), some (.inl (σa 34 0)), some (.inl v)]) (st' := [.inl (σa 34 0), .inl 3, .inr (.inr 34)]) rfl ?_
        refine jw_W_call (as := [.inr (.inr 34), .inl 3, .inl (σa 34 0)]) (rest := []) rfl rfl rfl rfl (Nat.le_of_ble_eq_true rfl) (.inr rfl) (jk_failX (jk_XD_row hEq.1 hwo _ _).1 (by omega) (by omega)) (by omega) ?_ rfl
        rintro r1 σz ⟨rfl, hEf, hf0, hf2⟩
        rename jw_H => σfg
        show jw_W (js_S n) _ md_87 56 [some (.inr (.inr 33)), some (.inr (.inr w)), some (.inl a), some (.inl sg), some (.inl ((jk_h b m (σ 34 0)) - 48)), some (.inl (σa 34 0)), some (.inl v)] [] σfg _
        refine jw_W_re rfl ?_
        exact ⟨rfl, jk_tendF hEq hwo hv3 hEf hf2 (by omega) (fun hz => .inr ⟨hq2.trans hz, (jk_trm_3 hcf hl hgood (by rw [← hv]; omega)).trans (by omega)⟩)⟩
  · have hc1 : ¬ ((jk_h b m (σ 34 0)) = 50) := hc1
    refine jw_W_n 1 (i' := 8) (ls' := [some (.inr (.inr 33)), some (.inr (.inr w)), some (.inl a), some (.inl sg), some (.inl 1), none, none]) (st' := [.inr (.inr 33)]) rfl ?_
    refine jw_W_gf rfl rfl rfl ?_
    show jw_W (js_S n) _ md_87 9 [some (.inr (.inr 33)), some (.inr (.inr w)), some (.inl a), some (.inl sg), some (.inl 1), none, none] [.inr (.inr 34)] σ _
    refine jw_W_call (as := [.inr (.inr 34)]) (rest := []) rfl rfl rfl rfl (Nat.le_of_ble_eq_true rfl) (.inr rfl) (jk_hereX hX) (by omega) ?_ rfl
    rintro r1 σz ⟨rfl, hs⟩
    rw [hs]
    show jw_W (js_S n) _ md_87 10 [some (.inr (.inr 33)), some (.inr (.inr w)), some (.inl a), some (.inl sg), some (.inl 1), none, none] [.inl (jk_h b m (σ 34 0))] σ _
    refine jw_W_n 1 (i' := 11) (ls' := [some (.inr (.inr 33)), some (.inr (.inr w)), some (.inl a), some (.inl sg), some (.inl 1), none, none]) (st' := [.inl 51, .inl (jk_h b m (σ 34 0))]) rfl ?_
    refine jw_W_ic rfl (by unfold jw_rg; omega) (by unfold jw_rg; omega) (fun hc5 => ?_) (fun hc5 => ?_)
    · have hc5 : (jk_h b m (σ 34 0)) ≠ 51 := hc5
      refine jw_W_n 1 (i' := 26) (ls' := [some (.inr (.inr 33)), some (.inr (.inr w)), some (.inl a), some (.inl sg), some (.inl 1), none, none]) (st' := [.inr (.inr 33)]) rfl ?_
      refine jw_W_gf rfl rfl rfl ?_
      show jw_W (js_S n) _ md_87 27 [some (.inr (.inr 33)), some (.inr (.inr w)), some (.inl a), some (.inl sg), some (.inl 1), none, none] [.inr (.inr 34)] σ _
      refine jw_W_gf rfl rfl rfl ?_
      show jw_W (js_S n) _ md_87 28 [some (.inr (.inr 33)), some (.inr (.inr w)), some (.inl a), some (.inl sg), some (.inl 1), none, none] [.inl (σ 34 0)] σ _
      refine jw_W_n 2 (i' := 30) (ls' := [some (.inr (.inr 33)), some (.inr (.inr w)), some (.inl a), some (.inl sg), some (.inl 1), some (.inl (σ 34 0)), none]) (st' := [.inr (.inr 33)]) rfl ?_
      refine jw_W_call (as := [.inr (.inr 33)]) (rest := []) rfl rfl rfl rfl (Nat.le_of_ble_eq_true rfl) (.inr rfl) (jk_readQX hX) (by omega) ?_ rfl
      rintro r1 σz (⟨v, rfl, hv, hl, hE, h2⟩ | ⟨v, rfl, hv, hl, hq, hE, h2⟩ | ⟨v, rfl, hv, hl, hq, hE, h2, h0⟩)
      · rename jw_H => σq
        have epl : σ 34 0 = σ 34 0 + 0 := by omega
        rw [epl] at hl
        have hcf : jk_cf (jk_h b m (σ 34 0)) (1) 0 := by unfold jk_cf; omega
        have hEq : jk_E n o b m σ σq := jk_E_tr (jk_E_rf hX) hE
        have eqw : σq w = σ w := hEq.2.2 w (by omega)
        have hv3 : 0 ≤ v ∧ v < 3 := by omega
        have htv := htw v hv3.1 hv3.2
        have hx6 : σq w (a + v) + sg * 1 = s * (t v + s' * 1) := by rw [eqw, htv.1, hsg, Int.mul_add, Int.mul_assoc]
        have hc13 : 1 ≤ 1 ∧ 1 ≤ 3 := by omega
        have hx7 : -6 ≤ t v + s' * 1 ∧ t v + s' * 1 ≤ 6 := by rcases hs1 with e | e <;> rw [e] <;> omega
        have hx8 : (-6 ≤ σq w (a + v) + sg * 1 ∧ σq w (a + v) + sg * 1 ≤ 6) ∧ ((-3 ≤ σq w (a + v) + sg * 1 ∧ σq w (a + v) + sg * 1 ≤ 3) ↔ (-3 ≤ t v + s' * 1 ∧ t v + s' * 1 ≤ 3)) := by rw [hx6]; rcases hs0 with e | e <;> rw [e] <;> omega
        have hq2 : σ 34 2 = 0 → σq 34 2 = -1000 * 1 - (σ 34 0 + 0) := fun hz => by have hh := h2 (by exact hz); omega
        have hT : (jk_trm b m (σ o 0) s' t (σ 34 0)).1 = -1000 * 1 - (σ 34 0 + 0) := jk_trm_1 hcf hl
        have hbad : True := trivial
        show jw_W (js_S n) _ md_87 31 [some (.inr (.inr 33)), some (.inr (.inr w)), some (.inl a), some (.inl sg), some (.inl 1), some (.inl (σ 34 0)), none] [.inl v] σq _
        refine jw_W_n 6 (i' := 37) (ls' := [some (.inr (.inr 33)), some (.inr (.inr w)), some (.inl a), some (.inl sg), some (.inl 1), some (.inl (σ 34 0)), some (.inl v)]) (st' := [.inl (a + v), .inr (.inr w), .inl (a + v), .inr (.inr w)]) rfl ?_
        refine jw_W_ia rfl hw.2 (by omega) (by omega) (by omega) ?_
        show jw_W (js_S n) _ md_87 38 [some (.inr (.inr 33)), some (.inr (.inr w)), some (.inl a), some (.inl sg), some (.inl 1), some (.inl (σ 34 0)), some (.inl v)] [.inl (σq w (a + v)), .inl (a + v), .inr (.inr w)] σq _
        refine jw_W_n 4 (i' := 42) (ls' := [some (.inr (.inr 33)), some (.inr (.inr w)), some (.inl a), some (.inl sg), some (.inl 1), some (.inl (σ 34 0)), some (.inl v)]) (st' := [.inl ((σq w (a + v)) + (sg * 1)), .inl (a + v), .inr (.inr w)]) rfl ?_
        refine jw_W_is rfl (by omega) hw.2 (by omega) (by omega) (by omega) ?_
        refine jw_W_n 4 (i' := 47) (ls' := [some (.inr (.inr 33)), some (.inr (.inr w)), some (.inl a), some (.inl sg), some (.inl 1), some (.inl (σ 34 0)), some (.inl v)]) (st' := [.inl (a + v), .inr (.inr w)]) rfl ?_
        refine jw_W_ia rfl hw.2 (by omega) (by omega) (by omega) ?_
        show jw_W (js_S n) _ md_87 48 [some (.inr (.inr 33)), some (.inr (.inr w)), some (.inl a), some (.inl sg), some (.inl 1), some (.inl (σ 34 0)), some (.inl v)] [.inl ((jw_up σq w (a + v) ((σq w (a + v)) + (sg * 1))) w (a + v))] ((jw_up σq w (a + v) ((σq w (a + v)) + (sg * 1)))) _
        rw [jw_up_eq]
        refine jw_W_abs rfl rfl (by unfold jw_rg; omega) (Nat.le_of_ble_eq_true rfl) ?_
        generalize hab : (if 0 ≤ (σq w (a + v)) + (sg * 1) then (σq w (a + v)) + (sg * 1) else -((σq w (a + v)) + (sg * 1))) = ab
        have hab2 : (0 ≤ (σq w (a + v)) + (sg * 1) ∧ ab = (σq w (a + v)) + (sg * 1)) ∨ ((σq w (a + v)) + (sg * 1) < 0 ∧ ab = -((σq w (a + v)) + (sg * 1))) := by
          by_cases hz : 0 ≤ (σq w (a + v)) + (sg * 1)
          · exact .inl ⟨hz, by rw [← hab, if_pos hz]⟩
          · exact .inr ⟨by omega, by rw [← hab, if_neg hz]⟩
        refine jw_W_n 1 (i' := 50) (ls' := [some (.inr (.inr 33)), some (.inr (.inr w)), some (.inl a), some (.inl sg), some (.inl 1), some (.inl (σ 34 0)), some (.inl v)]) (st' := [.inl 3, .inl ab]) rfl ?_
        refine jw_W_ic rfl (by unfold jw_rg; omega) (by unfold jw_rg; omega) (fun hc6 => ?_) (fun hc6 => ?_)
        · have hc6 : ab ≤ 3 := hc6
          refine jw_W_re rfl ?_
          exact ⟨rfl, jk_tendN hEq hwo hv3 (fun hz => ⟨by have := hq2 hz; omega, fun hh => by omega⟩)⟩
        · have hc6 : ¬ (ab ≤ 3) := hc6
          refine jw_W_n 1 (i' := 52) (ls' := [some (.inr (.inr 33)), some (.inr (.inr w)), some (.inl a), some (.inl sg), some (.inl 1), some (.inl (σ 34 0)), some (.inl v)]) (st' := [.inr (.inr 33)]) rfl ?_
          refine jw_W_gf rfl rfl rfl ?_
          show jw_W (js_S n) _ md_87 53 [some (.inr (.inr 33)), some (.inr (.inr w)), some (.inl a), some (.inl sg), some (.inl 1), some (.inl (σ 34 0)), some (.inl v)] [.inr (.inr 34)] ((jw_up σq w (a + v) ((σq w (a + v)) + (sg * 1)))) _
          refine jw_W_n 2 (i' := 55) (ls' := [some (.inr (.inr 33)), some (.inr (.inr w)), some (.inl a), some (.inl sg), some (.inl 1), some (.inl (σ 34 0)), some (.inl v)]) (st' := [.inl (σ 34 0), .inl 3, .inr (.inr 34)]) rfl ?_
          refine jw_W_call (as := [.inr (.inr 34), .inl 3, .inl (σ 34 0)]) (rest := []) rfl rfl rfl rfl (Nat.le_of_ble_eq_true rfl) (.inr rfl) (jk_failX (jk_XD_row hEq.1 hwo _ _).1 (by omega) (by omega)) (by omega) ?_ rfl
          rintro r1 σz ⟨rfl, hEf, hf0, hf2⟩
          rename jw_H => σf
          show jw_W (js_S n) _ md_87 56 [some (.inr (.inr 33)), some (.inr (.inr w)), some (.inl a), some (.inl sg), some (.inl 1), some (.inl (σ 34 0)), some (.inl v)] [] σf _
          refine jw_W_re rfl ?_
          exact ⟨rfl, jk_tendF hEq hwo hv3 hEf hf2 (by omega) (fun hz => .inl ⟨by have := hq2 hz; omega, by omega⟩)⟩
      · rename jw_H => σq
        have epl : σ 34 0 = σ 34 0 + 0 := by omega
        rw [epl] at hl hv
        have hcf : jk_cf (jk_h b m (σ 34 0)) (1) 0 := by unfold jk_cf; omega
        have hEq : jk_E n o b m σ σq := jk_E_tr (jk_E_rf hX) hE
        have eqw : σq w = σ w := hEq.2.2 w (by omega)
        have hlu := hl
        unfold jk_let at hlu
        have hv3 : 0 ≤ v ∧ v < 3 := by omega
        have htv := htw v hv3.1 hv3.2
        have hx6 : σq w (a + v) + sg * 1 = s * (t v + s' * 1) := by rw [eqw, htv.1, hsg, Int.mul_add, Int.mul_assoc]
        have hc13 : 1 ≤ 1 ∧ 1 ≤ 3 := by omega
        have hx7 : -6 ≤ t v + s' * 1 ∧ t v + s' * 1 ≤ 6 := by rcases hs1 with e | e <;> rw [e] <;> omega
        have hx8 : (-6 ≤ σq w (a + v) + sg * 1 ∧ σq w (a + v) + sg * 1 ≤ 6) ∧ ((-3 ≤ σq w (a + v) + sg * 1 ∧ σq w (a + v) + sg * 1 ≤ 3) ↔ (-3 ≤ t v + s' * 1 ∧ t v + s' * 1 ≤ 3)) := by rw [hx6]; rcases hs0 with e | e <;> rw [e] <;> omega
        have hq2 : σ 34 2 = 0 → σq 34 2 = -1000 * 7 - (σ 34 0 + 0) := fun hz => by have hh := h2 (by exact hz); omega
        have hT : (jk_trm b m (σ o 0) s' t (σ 34 0)).1 = -1000 * 7 - (σ 34 0 + 0) := jk_trm_7 hcf hl (by omega)
        have hbad : True := trivial
        show jw_W (js_S n) _ md_87 31 [some (.inr (.inr 33)), some (.inr (.inr w)), some (.inl a), some (.inl sg), some (.inl 1), some (.inl (σ 34 0)), none] [.inl v] σq _
        refine jw_W_n 6 (i' := 37) (ls' := [some (.inr (.inr 33)), some (.inr (.inr w)), some (.inl a), some (.inl sg), some (.inl 1), some (.inl (σ 34 0)), some (.inl v)]) (st' := [.inl (a + v), .inr (.inr w), .inl (a + v), .inr (.inr w)]) rfl ?_
        refine jw_W_ia rfl hw.2 (by omega) (by omega) (by omega) ?_
        show jw_W (js_S n) _ md_87 38 [some (.inr (.inr 33)), some (.inr (.inr w)), some (.inl a), some (.inl sg), some (.inl 1), some (.inl (σ 34 0)), some (.inl v)] [.inl (σq w (a + v)), .inl (a + v), .inr (.inr w)] σq _
        refine jw_W_n 4 (i' := 42) (ls' := [some (.inr (.inr 33)), some (.inr (.inr w)), some (.inl a), some (.inl sg), some (.inl 1), some (.inl (σ 34 0)), some (.inl v)]) (st' := [.inl ((σq w (a + v)) + (sg * 1)), .inl (a + v), .inr (.inr w)]) rfl ?_
        refine jw_W_is rfl (by omega) hw.2 (by omega) (by omega) (by omega) ?_
        refine jw_W_n 4 (i' := 47) (ls' := [some (.inr (.inr 33)), some (.inr (.inr w)), some (.inl a), some (.inl sg), some (.inl 1), some (.inl (σ 34 0)), some (.inl v)]) (st' := [.inl (a + v), .inr (.inr w)]) rfl ?_
        refine jw_W_ia rfl hw.2 (by omega) (by omega) (by omega) ?_
        show jw_W (js_S n) _ md_87 48 [some (.inr (.inr 33)), some (.inr (.inr w)), some (.inl a), some (.inl sg), some (.inl 1), some (.inl (σ 34 0)), some (.inl v)] [.inl ((jw_up σq w (a + v) ((σq w (a + v)) + (sg * 1))) w (a + v))] ((jw_up σq w (a + v) ((σq w (a + v)) + (sg * 1)))) _
        rw [jw_up_eq]
        refine jw_W_abs rfl rfl (by unfold jw_rg; omega) (Nat.le_of_ble_eq_true rfl) ?_
        generalize hab : (if 0 ≤ (σq w (a + v)) + (sg * 1) then (σq w (a + v)) + (sg * 1) else -((σq w (a + v)) + (sg * 1))) = ab
        have hab2 : (0 ≤ (σq w (a + v)) + (sg * 1) ∧ ab = (σq w (a + v)) + (sg * 1)) ∨ ((σq w (a + v)) + (sg * 1) < 0 ∧ ab = -((σq w (a + v)) + (sg * 1))) := by
          by_cases hz : 0 ≤ (σq w (a + v)) + (sg * 1)
          · exact .inl ⟨hz, by rw [← hab, if_pos hz]⟩
          · exact .inr ⟨by omega, by rw [← hab, if_neg hz]⟩
        refine jw_W_n 1 (i' := 50) (ls' := [some (.inr (.inr 33)), some (.inr (.inr w)), some (.inl a), some (.inl sg), some (.inl 1), some (.inl (σ 34 0)), some (.inl v)]) (st' := [.inl 3, .inl ab]) rfl ?_
        refine jw_W_ic rfl (by unfold jw_rg; omega) (by unfold jw_rg; omega) (fun hc7 => ?_) (fun hc7 => ?_)
        · have hc7 : ab ≤ 3 := hc7
          refine jw_W_re rfl ?_
          exact ⟨rfl, jk_tendN hEq hwo hv3 (fun hz => ⟨by have := hq2 hz; omega, fun hh => by omega⟩)⟩
        · have hc7 : ¬ (ab ≤ 3) := hc7
          refine jw_W_n 1 (i' := 52) (ls' := [some (.inr (.inr 33)), some (.inr (.inr w)), some (.inl a), some (.inl sg), some (.inl 1), some (.inl (σ 34 0)), some (.inl v)]) (st' := [.inr (.inr 33)]) rfl ?_
          refine jw_W_gf rfl rfl rfl ?_
          show jw_W (js_S n) _ md_87 53 [some (.inr (.inr 33)), some (.inr (.inr w)), some (.inl a), some (.inl sg), some (.inl 1), some (.inl (σ 34 0)), some (.inl v)] [.inr (.inr 34)] ((jw_up σq w (a + v) ((σq w (a + v)) + (sg * 1)))) _
          refine jw_W_n 2 (i' := 55) (ls' := [some (.inr (.inr 33)), some (.inr (.inr w)), some (.inl a), some (.inl sg), some (.inl 1), some (.inl (σ 34 0)), some (.inl v)]) (st' := [.inl (σ 34 0), .inl 3, .inr (.inr 34)]) rfl ?_
          refine jw_W_call (as := [.inr (.inr 34), .inl 3, .inl (σ 34 0)]) (rest := []) rfl rfl rfl rfl (Nat.le_of_ble_eq_true rfl) (.inr rfl) (jk_failX (jk_XD_row hEq.1 hwo _ _).1 (by omega) (by omega)) (by omega) ?_ rfl
          rintro r1 σz ⟨rfl, hEf, hf0, hf2⟩
          rename jw_H => σf
          show jw_W (js_S n) _ md_87 56 [some (.inr (.inr 33)), some (.inr (.inr w)), some (.inl a), some (.inl sg), some (.inl 1), some (.inl (σ 34 0)), some (.inl v)] [] σf _
          refine jw_W_re rfl ?_
          exact ⟨rfl, jk_tendF hEq hwo hv3 hEf hf2 (by omega) (fun hz => .inl ⟨by have := hq2 hz; omega, by omega⟩)⟩
      · rename jw_H => σg
        have epl : σ 34 0 = σ 34 0 + 0 := by omega
        rw [epl] at hl hv
        have hcf : jk_cf (jk_h b m (σ 34 0)) (1) 0 := by unfold jk_cf; omega
        have hEq : jk_E n o b m σ σg := jk_E_tr (jk_E_rf hX) hE
        have eqw : σg w = σ w := hEq.2.2 w (by omega)
        have hlu := hl
        unfold jk_let at hlu
        have hv3 : 0 ≤ v ∧ v < 3 := by omega
        have htv := htw v hv3.1 hv3.2
        have hx6 : σg w (a + v) + sg * 1 = s * (t v + s' * 1) := by rw [eqw, htv.1, hsg, Int.mul_add, Int.mul_assoc]
        have hc13 : 1 ≤ 1 ∧ 1 ≤ 3 := by omega
        have hx7 : -6 ≤ t v + s' * 1 ∧ t v + s' * 1 ≤ 6 := by rcases hs1 with e | e <;> rw [e] <;> omega
        have hx8 : (-6 ≤ σg w (a + v) + sg * 1 ∧ σg w (a + v) + sg * 1 ≤ 6) ∧ ((-3 ≤ σg w (a + v) + sg * 1 ∧ σg w (a + v) + sg * 1 ≤ 3) ↔ (-3 ≤ t v + s' * 1 ∧ t v + s' * 1 ≤ 3)) := by rw [hx6]; rcases hs0 with e | e <;> rw [e] <;> omega
        have hq2 : σg 34 2 = σ 34 2 := h2
        have hq0 : σg 34 0 = σ 34 0 + 0 + 1 := by rw [h0]; omega
        have hgood : jk_h b m (σ 34 0 + 0) - 120 < σ o 0 := by omega
        show jw_W (js_S n) _ md_87 31 [some (.inr (.inr 33)), some (.inr (.inr w)), some (.inl a), some (.inl sg), some (.inl 1), some (.inl (σ 34 0)), none] [.inl v] σg _
        refine jw_W_n 6 (i' := 37) (ls' := [some (.inr (.inr 33)), some (.inr (.inr w)), some (.inl a), some (.inl sg), some (.inl 1), some (.inl (σ 34 0)), some (.inl v)]) (st' := [.inl (a + v), .inr (.inr w), .inl (a + v), .inr (.inr w)]) rfl ?_
        refine jw_W_ia rfl hw.2 (by omega) (by omega) (by omega) ?_
        show jw_W (js_S n) _ md_87 38 [some (.inr (.inr 33)), some (.inr (.inr w)), some (.inl a), some (.inl sg), some (.inl 1), some (.inl (σ 34 0)), some (.inl v)] [.inl (σg w (a + v)), .inl (a + v), .inr (.inr w)] σg _
        refine jw_W_n 4 (i' := 42) (ls' := [some (.inr (.inr 33)), some (.inr (.inr w)), some (.inl a), some (.inl sg), some (.inl 1), some (.inl (σ 34 0)), some (.inl v)]) (st' := [.inl ((σg w (a + v)) + (sg * 1)), .inl (a + v), .inr (.inr w)]) rfl ?_
        refine jw_W_is rfl (by omega) hw.2 (by omega) (by omega) (by omega) ?_
        refine jw_W_n 4 (i' := 47) (ls' := [some (.inr (.inr 33)), some (.inr (.inr w)), some (.inl a), some (.inl sg), some (.inl 1), some (.inl (σ 34 0)), some (.inl v)]) (st' := [.inl (a + v), .inr (.inr w)]) rfl ?_
        refine jw_W_ia rfl hw.2 (by omega) (by omega) (by omega) ?_
        show jw_W (js_S n) _ md_87 48 [some (.inr (.inr 33)), some (.inr (.inr w)), some (.inl a), some (.inl sg), some (.inl 1), some (.inl (σ 34 0)), some (.inl v)] [.inl ((jw_up σg w (a + v) ((σg w (a + v)) + (sg * 1))) w (a + v))] ((jw_up σg w (a + v) ((σg w (a + v)) + (sg * 1)))) _
        rw [jw_up_eq]
        refine jw_W_abs rfl rfl (by unfold jw_rg; omega) (Nat.le_of_ble_eq_true rfl) ?_
        generalize hab : (if 0 ≤ (σg w (a + v)) + (sg * 1) then (σg w (a + v)) + (sg * 1) else -((σg w (a + v)) + (sg * 1))) = ab
        have hab2 : (0 ≤ (σg w (a + v)) + (sg * 1) ∧ ab = (σg w (a + v)) + (sg * 1)) ∨ ((σg w (a + v)) + (sg * 1) < 0 ∧ ab = -((σg w (a + v)) + (sg * 1))) := by
          by_cases hz : 0 ≤ (σg w (a + v)) + (sg * 1)
          · exact .inl ⟨hz, by rw [← hab, if_pos hz]⟩
          · exact .inr ⟨by omega, by rw [← hab, if_neg hz]⟩
        refine jw_W_n 1 (i' := 50) (ls' := [some (.inr (.inr 33)), some (.inr (.inr w)), some (.inl a), some (.inl sg), some (.inl 1), some (.inl (σ 34 0)), some (.inl v)]) (st' := [.inl 3, .inl ab]) rfl ?_
        refine jw_W_ic rfl (by unfold jw_rg; omega) (by unfold jw_rg; omega) (fun hc8 => ?_) (fun hc8 => ?_)
        · have hc8 : ab ≤ 3 := hc8
          refine jw_W_re rfl ?_
          refine ⟨rfl, jk_tendN hEq hwo hv3 (fun hz => ?_)⟩
          rw [jk_trm_0 hcf hl hgood (by rw [← hv]; omega)]
          refine ⟨hq2.trans hz, fun _ => ⟨hq0, fun j j0 j1 => ?_⟩⟩
          show _ = s * (if j = _ then _ else _)
          rw [← hv, eqw]
          by_cases hj : j = v
          · rw [if_pos hj, if_pos hj, hj, ← eqw]
            exact hx6
          · rw [if_neg hj, if_neg hj]
            exact (htw j j0 j1).1
        · have hc8 : ¬ (ab ≤ 3) := hc8
          refine jw_W_n 1 (i' := 52) (ls' := [some (.inr (.inr 33)), some (.inr (.inr w)), some (.inl a), some (.inl sg), some (.inl 1), some (.inl (σ 34 0)), some (.inl v)]) (st' := [.inr (.inr 33)]) rfl ?_
          refine jw_W_gf rfl rfl rfl ?_
          show jw_W (js_S n) _ md_87 53 [some (.inr (.inr 33)), some (.inr (.inr w)), some (.inl a), some (.inl sg), some (.inl 1), some (.inl (σ 34 0)), some (.inl v)] [.inr (.inr 34)] ((jw_up σg w (a + v) ((σg w (a + v)) + (sg * 1)))) _
          refine jw_W_n 2 (i' := 55) (ls' := [some (.inr (.inr 33)), some (.inr (.inr w)), some (.inl a), some (.inl sg), some (.inl 1), some (.inl (σ 34 0)), some (.inl v)]) (st' := [.inl (σ 34 0), .inl 3, .inr (.inr 34)]) rfl ?_
          refine jw_W_call (as := [.inr (.inr 34), .inl 3, .inl (σ 34 0)]) (rest := []) rfl rfl rfl rfl (Nat.le_of_ble_eq_true rfl) (.inr rfl) (jk_failX (jk_XD_row hEq.1 hwo _ _).1 (by omega) (by omega)) (by omega) ?_ rfl
          rintro r1 σz ⟨rfl, hEf, hf0, hf2⟩
          rename jw_H => σfg
          show jw_W (js_S n) _ md_87 56 [some (.inr (.inr 33)), some (.inr (.inr w)), some (.inl a), some (.inl sg), some (.inl 1), some (.inl (σ 34 0)), some (.inl v)] [] σfg _
          refine jw_W_re rfl ?_
          exact ⟨rfl, jk_tendF hEq hwo hv3 hEf hf2 (by omega) (fun hz => .inr ⟨hq2.trans hz, (jk_trm_3 hcf hl hgood (by rw [← hv]; omega)).trans (by omega)⟩)⟩
    · have hc5 : (jk_h b m (σ 34 0)) = 51 := Classical.not_not.mp hc5
      refine jw_W_n 1 (i' := 13) (ls' := [some (.inr (.inr 33)), some (.inr (.inr w)), some (.inl a), some (.inl sg), some (.inl 1), none, none]) (st' := [.inr (.inr 33)]) rfl ?_
      refine jw_W_gf rfl rfl rfl ?_
      show jw_W (js_S n) _ md_87 14 [some (.inr (.inr 33)), some (.inr (.inr w)), some (.inl a), some (.inl sg), some (.inl 1), none, none] [.inr (.inr 34)] σ _
      refine jw_W_call (as := [.inr (.inr 34)]) (rest := []) rfl rfl rfl rfl (Nat.le_of_ble_eq_true rfl) (.inr rfl) (jk_hereX hX) (by omega) ?_ rfl
      rintro r1 σz ⟨rfl, hs⟩
      rw [hs]
      show jw_W (js_S n) _ md_87 15 [some (.inr (.inr 33)), some (.inr (.inr w)), some (.inl a), some (.inl sg), some (.inl 1), none, none] [.inl (jk_h b m (σ 34 0))] σ _
      refine jw_W_n 4 (i' := 19) (ls' := [some (.inr (.inr 33)), some (.inr (.inr w)), some (.inl a), some (.inl sg), some (.inl ((jk_h b m (σ 34 0)) - 48)), none, none]) (st' := [.inr (.inr 33)]) rfl ?_
      refine jw_W_gf rfl rfl rfl ?_
      show jw_W (js_S n) _ md_87 20 [some (.inr (.inr 33)), some (.inr (.inr w)), some (.inl a), some (.inl sg), some (.inl ((jk_h b m (σ 34 0)) - 48)), none, none] [.inr (.inr 34)] σ _
      refine jw_W_n 1 (i' := 21) (ls' := [some (.inr (.inr 33)), some (.inr (.inr w)), some (.inl a), some (.inl sg), some (.inl ((jk_h b m (σ 34 0)) - 48)), none, none]) (st' := [.inr (.inr 34), .inr (.inr 34)]) rfl ?_
      refine jw_W_gf rfl rfl rfl ?_
      show jw_W (js_S n) _ md_87 22 [some (.inr (.inr 33)), some (.inr (.inr w)), some (.inl a), some (.inl sg), some (.inl ((jk_h b m (σ 34 0)) - 48)), none, none] [.inl (σ 34 0), .inr (.inr 34)] σ _
      refine jw_W_n 2 (i' := 24) (ls' := [some (.inr (.inr 33)), some (.inr (.inr w)), some (.inl a), some (.inl sg), some (.inl ((jk_h b m (σ 34 0)) - 48)), none, none]) (st' := [.inl (σ 34 0 + 1), .inr (.inr 34)]) rfl ?_
      refine jw_W_pf (a := σ 34 0 + 1) rfl (by omega) rfl rfl rfl rfl rfl ?_
      obtain ⟨σa, hsa⟩ : ∃ s, s = jw_up σ 34 0 (σ 34 0 + 1) := ⟨_, rfl⟩
      show jw_W (js_S n) _ _ _ _ _ (jw_up σ 34 0 (σ 34 0 + 1)) _
      rw [← hsa]
      have hEa : jk_E n o b m σ σa := by rw [hsa]; exact jk_E_at hX (hh0.2.2 (by omega))
      have hXa := hEa.1
      have ea0 : σa 34 0 = σ 34 0 + 1 := by rw [hsa, jw_up_eq]
      have ea2 : σa 34 2 = σ 34 2 := by rw [hsa, jw_up_ne _ (by omega)]
      have eao : σa o 0 = σ o 0 := by rw [hsa, jw_up_out _ _ _ (by omega)]
      refine jw_W_n 1 (i' := 26) (ls' := [some (.inr (.inr 33)), some (.inr (.inr w)), some (.inl a), some (.inl sg), some (.inl ((jk_h b m (σ 34 0)) - 48)), none, none]) (st' := [.inr (.inr 33)]) rfl ?_
      refine jw_W_gf rfl rfl rfl ?_
      show jw_W (js_S n) _ md_87 27 [some (.inr (.inr 33)), some (.inr (.inr w)), some (.inl a), some (.inl sg), some (.inl ((jk_h b m (σ 34 0)) - 48)), none, none] [.inr (.inr 34)] σa _
      refine jw_W_gf rfl rfl rfl ?_
      show jw_W (js_S n) _ md_87 28 [some (.inr (.inr 33)), some (.inr (.inr w)), some (.inl a), some (.inl sg), some (.inl ((jk_h b m (σ 34 0)) - 48)), none, none] [.inl (σa 34 0)] σa _
      refine jw_W_n 2 (i' := 30) (ls' := [some (.inr (.inr 33)), some (.inr (.inr w)), some (.inl a), some (.inl sg), some (.inl ((jk_h b m (σ 34 0)) - 48)), some (.inl (σa 34 0)), none]) (st' := [.inr (.inr 33)]) rfl ?_
      refine jw_W_call (as := [.inr (.inr 33)]) (rest := []) rfl rfl rfl rfl (Nat.le_of_ble_eq_true rfl) (.inr rfl) (jk_readQX hXa) (by omega) ?_ rfl
      rintro r1 σz (⟨v, rfl, hv, hl, hE, h2⟩ | ⟨v, rfl, hv, hl, hq, hE, h2⟩ | ⟨v, rfl, hv, hl, hq, hE, h2, h0⟩)
      · rename jw_H => σq
        have epl : σ 34 0 + 1 = σ 34 0 + 1 := by omega
        rw [ea0] at hl
        rw [epl] at hl
        have hcf : jk_cf (jk_h b m (σ 34 0)) ((jk_h b m (σ 34 0) - 48)) 1 := by unfold jk_cf; omega
        have hEq : jk_E n o b m σ σq := jk_E_tr hEa hE
        have eqw : σq w = σ w := hEq.2.2 w (by omega)
        have hv3 : 0 ≤ v ∧ v < 3 := by omega
        have htv := htw v hv3.1 hv3.2
        have hx6 : σq w (a + v) + sg * (jk_h b m (σ 34 0) - 48) = s * (t v + s' * (jk_h b m (σ 34 0) - 48)) := by rw [eqw, htv.1, hsg, Int.mul_add, Int.mul_assoc]
        have hc13 : 1 ≤ (jk_h b m (σ 34 0) - 48) ∧ (jk_h b m (σ 34 0) - 48) ≤ 3 := by omega
        have hx7 : -6 ≤ t v + s' * (jk_h b m (σ 34 0) - 48) ∧ t v + s' * (jk_h b m (σ 34 0) - 48) ≤ 6 := by rcases hs1 with e | e <;> rw [e] <;> omega
        have hx8 : (-6 ≤ σq w (a + v) + sg * (jk_h b m (σ 34 0) - 48) ∧ σq w (a + v) + sg * (jk_h b m (σ 34 0) - 48) ≤ 6) ∧ ((-3 ≤ σq w (a + v) + sg * (jk_h b m (σ 34 0) - 48) ∧ σq w (a + v) + sg * (jk_h b m (σ 34 0) - 48) ≤ 3) ↔ (-3 ≤ t v + s' * (jk_h b m (σ 34 0) - 48) ∧ t v + s' * (jk_h b m (σ 34 0) - 48) ≤ 3)) := by rw [hx6]; rcases hs0 with e | e <;> rw [e] <;> omega
        have hq2 : σ 34 2 = 0 → σq 34 2 = -1000 * 1 - (σ 34 0 + 1) := fun hz => by have hh := h2 (by rw [ea2]; exact hz); omega
        have hT : (jk_trm b m (σ o 0) s' t (σ 34 0)).1 = -1000 * 1 - (σ 34 0 + 1) := jk_trm_1 hcf hl
        have hbad : True := trivial
        show jw_W (js_S n) _ md_87 31 [some (.inr (.inr 33)), some (.inr (.inr w)), some (.inl a), some (.inl sg), some (.inl ((jk_h b m (σ 34 0)) - 48)), some (.inl (σa 34 0)), none] [.inl v] σq _
        refine jw_W_n 6 (i' := 37) (ls' := [some (.inr (.inr 33)), some (.inr (.inr w)), some (.inl a), some (.inl sg), some (.inl ((jk_h b m (σ 34 0)) - 48)), some (.inl (σa 34 0)), some (.inl v)]) (st' := [.inl (a + v), .inr (.inr w), .inl (a + v), .inr (.inr w)]) rfl ?_
        refine jw_W_ia rfl hw.2 (by omega) (by omega) (by omega) ?_
        show jw_W (js_S n) _ md_87 38 [some (.inr (.inr 33)), some (.inr (.inr w)), some (.inl a), some (.inl sg), some (.inl ((jk_h b m (σ 34 0)) - 48)), some (.inl (σa 34 0)), some (.inl v)] [.inl (σq w (a + v)), .inl (a + v), .inr (.inr w)] σq _
        refine jw_W_n 4 (i' := 42) (ls' := [some (.inr (.inr 33)), some (.inr (.inr w)), some (.inl a), some (.inl sg), some (.inl ((jk_h b m (σ 34 0)) - 48)), some (.inl (σa 34 0)), some (.inl v)]) (st' := [.inl ((σq w (a + v)) + (sg * ((jk_h b m (σ 34 0)) - 48))), .inl (a + v), .inr (.inr w)]) rfl ?_
        refine jw_W_is rfl (by omega) hw.2 (by omega) (by omega) (by omega) ?_
        refine jw_W_n 4 (i' := 47) (ls' := [some (.inr (.inr 33)), some (.inr (.inr w)), some (.inl a), some (.inl sg), some (.inl ((jk_h b m (σ 34 0)) - 48)), some (.inl (σa 34 0)), some (.inl v)]) (st' := [.inl (a + v), .inr (.inr w)]) rfl ?_
        refine jw_W_ia rfl hw.2 (by omega) (by omega) (by omega) ?_
        show jw_W (js_S n) _ md_87 48 [some (.inr (.inr 33)), some (.inr (.inr w)), some (.inl a), some (.inl sg), some (.inl ((jk_h b m (σ 34 0)) - 48)), some (.inl (σa 34 0)), some (.inl v)] [.inl ((jw_up σq w (a + v) ((σq w (a + v)) + (sg * ((jk_h b m (σ 34 0)) - 48)))) w (a + v))] ((jw_up σq w (a + v) ((σq w (a + v)) + (sg * ((jk_h b m (σ 34 0)) - 48))))) _
        rw [jw_up_eq]
        refine jw_W_abs rfl rfl (by unfold jw_rg; omega) (Nat.le_of_ble_eq_true rfl) ?_
        generalize hab : (if 0 ≤ (σq w (a + v)) + (sg * ((jk_h b m (σ 34 0)) - 48)) then (σq w (a + v)) + (sg * ((jk_h b m (σ 34 0)) - 48)) else -((σq w (a + v)) + (sg * ((jk_h b m (σ 34 0)) - 48)))) = ab
        have hab2 : (0 ≤ (σq w (a + v)) + (sg * ((jk_h b m (σ 34 0)) - 48)) ∧ ab = (σq w (a + v)) + (sg * ((jk_h b m (σ 34 0)) - 48))) ∨ ((σq w (a + v)) + (sg * ((jk_h b m (σ 34 0)) - 48)) < 0 ∧ ab = -((σq w (a + v)) + (sg * ((jk_h b m (σ 34 0)) - 48)))) := by
          by_cases hz : 0 ≤ (σq w (a + v)) + (sg * ((jk_h b m (σ 34 0)) - 48))
          · exact .inl ⟨hz, by rw [← hab, if_pos hz]⟩
          · exact .inr ⟨by omega, by rw [← hab, if_neg hz]⟩
        refine jw_W_n 1 (i' := 50) (ls' := [some (.inr (.inr 33)), some (.inr (.inr w)), some (.inl a), some (.inl sg), some (.inl ((jk_h b m (σ 34 0)) - 48)), some (.inl (σa 34 0)), some (.inl v)]) (st' := [.inl 3, .inl ab]) rfl ?_
        refine jw_W_ic rfl (by unfold jw_rg; omega) (by unfold jw_rg; omega) (fun hc9 => ?_) (fun hc9 => ?_)
        · have hc9 : ab ≤ 3 := hc9
          refine jw_W_re rfl ?_
          exact ⟨rfl, jk_tendN hEq hwo hv3 (fun hz => ⟨by have := hq2 hz; omega, fun hh => by omega⟩)⟩
        · have hc9 : ¬ (ab ≤ 3) := hc9
          refine jw_W_n 1 (i' := 52) (ls' := [some (.inr (.inr 33)), some (.inr (.inr w)), some (.inl a), some (.inl sg), some (.inl ((jk_h b m (σ 34 0)) - 48)), some (.inl (σa 34 0)), some (.inl v)]) (st' := [.inr (.inr 33)]) rfl ?_
          refine jw_W_gf rfl rfl rfl ?_
          show jw_W (js_S n) _ md_87 53 [some (.inr (.inr 33)), some (.inr (.inr w)), some (.inl a), some (.inl sg), some (.inl ((jk_h b m (σ 34 0)) - 48)), some (.inl (σa 34 0)), some (.inl v)] [.inr (.inr 34)] ((jw_up σq w (a + v) ((σq w (a + v)) + (sg * ((jk_h b m (σ 34 0)) - 48))))) _
          refine jw_W_n 2 (i' := 55) (ls' := [some (.inr (.inr 33)), some (.inr (.inr w)), some (.inl a), some (.inl sg), some (.inl ((jk_h b m (σ 34 0)) - 48)), some (.inl (σa 34 0)), some (.inl v)]) (st' := [.inl (σa 34 0), .inl 3, .inr (.inr 34)]) rfl ?_
          refine jw_W_call (as := [.inr (.inr 34), .inl 3, .inl (σa 34 0)]) (rest := []) rfl rfl rfl rfl (Nat.le_of_ble_eq_true rfl) (.inr rfl) (jk_failX (jk_XD_row hEq.1 hwo _ _).1 (by omega) (by omega)) (by omega) ?_ rfl
          rintro r1 σz ⟨rfl, hEf, hf0, hf2⟩
          rename jw_H => σf
          show jw_W (js_S n) _ md_87 56 [some (.inr (.inr 33)), some (.inr (.inr w)), some (.inl a), some (.inl sg), some (.inl ((jk_h b m (σ 34 0)) - 48)), some (.inl (σa 34 0)), some (.inl v)] [] σf _
          refine jw_W_re rfl ?_
          exact ⟨rfl, jk_tendF hEq hwo hv3 hEf hf2 (by omega) (fun hz => .inl ⟨by have := hq2 hz; omega, by omega⟩)⟩
      · rename jw_H => σq
        have epl : σ 34 0 + 1 = σ 34 0 + 1 := by omega
        rw [ea0] at hl hv
        rw [epl] at hl hv
        have hcf : jk_cf (jk_h b m (σ 34 0)) ((jk_h b m (σ 34 0) - 48)) 1 := by unfold jk_cf; omega
        have hEq : jk_E n o b m σ σq := jk_E_tr hEa hE
        have eqw : σq w = σ w := hEq.2.2 w (by omega)
        have hlu := hl
        unfold jk_let at hlu
        have hv3 : 0 ≤ v ∧ v < 3 := by omega
        have htv := htw v hv3.1 hv3.2
        have hx6 : σq w (a + v) + sg * (jk_h b m (σ 34 0) - 48) = s * (t v + s' * (jk_h b m (σ 34 0) - 48)) := by rw [eqw, htv.1, hsg, Int.mul_add, Int.mul_assoc]
        have hc13 : 1 ≤ (jk_h b m (σ 34 0) - 48) ∧ (jk_h b m (σ 34 0) - 48) ≤ 3 := by omega
        have hx7 : -6 ≤ t v + s' * (jk_h b m (σ 34 0) - 48) ∧ t v + s' * (jk_h b m (σ 34 0) - 48) ≤ 6 := by rcases hs1 with e | e <;> rw [e] <;> omega
        have hx8 : (-6 ≤ σq w (a + v) + sg * (jk_h b m (σ 34 0) - 48) ∧ σq w (a + v) + sg * (jk_h b m (σ 34 0) - 48) ≤ 6) ∧ ((-3 ≤ σq w (a + v) + sg * (jk_h b m (σ 34 0) - 48) ∧ σq w (a + v) + sg * (jk_h b m (σ 34 0) - 48) ≤ 3) ↔ (-3 ≤ t v + s' * (jk_h b m (σ 34 0) - 48) ∧ t v + s' * (jk_h b m (σ 34 0) - 48) ≤ 3)) := by rw [hx6]; rcases hs0 with e | e <;> rw [e] <;> omega
        have hq2 : σ 34 2 = 0 → σq 34 2 = -1000 * 7 - (σ 34 0 + 1) := fun hz => by have hh := h2 (by rw [ea2]; exact hz); omega
        rw [eao] at hq
        have hT : (jk_trm b m (σ o 0) s' t (σ 34 0)).1 = -1000 * 7 - (σ 34 0 + 1) := jk_trm_7 hcf hl (by omega)
        have hbad : True := trivial
        show jw_W (js_S n) _ md_87 31 [some (.inr (.inr 33)), some (.inr (.inr w)), some (.inl a), some (.inl sg), some (.inl ((jk_h b m (σ 34 0)) - 48)), some (.inl (σa 34 0)), none] [.inl v] σq _
        refine jw_W_n 6 (i' := 37) (ls' := [some (.inr (.inr 33)), some (.inr (.inr w)), some (.inl a), some (.inl sg), some (.inl ((jk_h b m (σ 34 0)) - 48)), some (.inl (σa 34 0)), some (.inl v)]) (st' := [.inl (a + v), .inr (.inr w), .inl (a + v), .inr (.inr w)]) rfl ?_
        refine jw_W_ia rfl hw.2 (by omega) (by omega) (by omega) ?_
        show jw_W (js_S n) _ md_87 38 [some (.inr (.inr 33)), some (.inr (.inr w)), some (.inl a), some (.inl sg), some (.inl ((jk_h b m (σ 34 0)) - 48)), some (.inl (σa 34 0)), some (.inl v)] [.inl (σq w (a + v)), .inl (a + v), .inr (.inr w)] σq _
        refine jw_W_n 4 (i' := 42) (ls' := [some (.inr (.inr 33)), some (.inr (.inr w)), some (.inl a), some (.inl sg), some (.inl ((jk_h b m (σ 34 0)) - 48)), some (.inl (σa 34 0)), some (.inl v)]) (st' := [.inl ((σq w (a + v)) + (sg * ((jk_h b m (σ 34 0)) - 48))), .inl (a + v), .inr (.inr w)]) rfl ?_
        refine jw_W_is rfl (by omega) hw.2 (by omega) (by omega) (by omega) ?_
        refine jw_W_n 4 (i' := 47) (ls' := [some (.inr (.inr 33)), some (.inr (.inr w)), some (.inl a), some (.inl sg), some (.inl ((jk_h b m (σ 34 0)) - 48)), some (.inl (σa 34 0)), some (.inl v)]) (st' := [.inl (a + v), .inr (.inr w)]) rfl ?_
        refine jw_W_ia rfl hw.2 (by omega) (by omega) (by omega) ?_
        show jw_W (js_S n) _ md_87 48 [some (.inr (.inr 33)), some (.inr (.inr w)), some (.inl a), some (.inl sg), some (.inl ((jk_h b m (σ 34 0)) - 48)), some (.inl (σa 34 0)), some (.inl v)] [.inl ((jw_up σq w (a + v) ((σq w (a + v)) + (sg * ((jk_h b m (σ 34 0)) - 48)))) w (a + v))] ((jw_up σq w (a + v) ((σq w (a + v)) + (sg * ((jk_h b m (σ 34 0)) - 48))))) _
        rw [jw_up_eq]
        refine jw_W_abs rfl rfl (by unfold jw_rg; omega) (Nat.le_of_ble_eq_true rfl) ?_
        generalize hab : (if 0 ≤ (σq w (a + v)) + (sg * ((jk_h b m (σ 34 0)) - 48)) then (σq w (a + v)) + (sg * ((jk_h b m (σ 34 0)) - 48)) else -((σq w (a + v)) + (sg * ((jk_h b m (σ 34 0)) - 48)))) = ab
        have hab2 : (0 ≤ (σq w (a + v)) + (sg * ((jk_h b m (σ 34 0)) - 48)) ∧ ab = (σq w (a + v)) + (sg * ((jk_h b m (σ 34 0)) - 48))) ∨ ((σq w (a + v)) + (sg * ((jk_h b m (σ 34 0)) - 48)) < 0 ∧ ab = -((σq w (a + v)) + (sg * ((jk_h b m (σ 34 0)) - 48)))) := by
          by_cases hz : 0 ≤ (σq w (a + v)) + (sg * ((jk_h b m (σ 34 0)) - 48))
          · exact .inl ⟨hz, by rw [← hab, if_pos hz]⟩
          · exact .inr ⟨by omega, by rw [← hab, if_neg hz]⟩
        refine jw_W_n 1 (i' := 50) (ls' := [some (.inr (.inr 33)), some (.inr (.inr w)), some (.inl a), some (.inl sg), some (.inl ((jk_h b m (σ 34 0)) - 48)), some (.inl (σa 34 0)), some (.inl v)]) (st' := [.inl 3, .inl ab]) rfl ?_
        refine jw_W_ic rfl (by unfold jw_rg; omega) (by unfold jw_rg; omega) (fun hc10 => ?_) (fun hc10 => ?_)
        · have hc10 : ab ≤ 3 := hc10
          refine jw_W_re rfl ?_
          exact ⟨rfl, jk_tendN hEq hwo hv3 (fun hz => ⟨by have := hq2 hz; omega, fun hh => by omega⟩)⟩
        · have hc10 : ¬ (ab ≤ 3) := hc10
          refine jw_W_n 1 (i' := 52) (ls' := [some (.inr (.inr 33)), some (.inr (.inr w)), some (.inl a), some (.inl sg), some (.inl ((jk_h b m (σ 34 0)) - 48)), some (.inl (σa 34 0)), some (.inl v)]) (st' := [.inr (.inr 33)]) rfl ?_
          refine jw_W_gf rfl rfl rfl ?_
          show jw_W (js_S n) _ md_87 53 [some (.inr (.inr 33)), some (.inr (.inr w)), some (.inl a), some (.inl sg), some (.inl ((jk_h b m (σ 34 0)) - 48)), some (.inl (σa 34 0)), some (.inl v)] [.inr (.inr 34)] ((jw_up σq w (a + v) ((σq w (a + v)) + (sg * ((jk_h b m (σ 34 0)) - 48))))) _
          refine jw_W_n 2 (i' := 55) (ls' := [some (.inr (.inr 33)), some (.inr (.inr w)), some (.inl a), some (.inl sg), some (.inl ((jk_h b m (σ 34 0)) - 48)), some (.inl (σa 34 0)), some (.inl v)]) (st' := [.inl (σa 34 0), .inl 3, .inr (.inr 34)]) rfl ?_
          refine jw_W_call (as := [.inr (.inr 34), .inl 3, .inl (σa 34 0)]) (rest := []) rfl rfl rfl rfl (Nat.le_of_ble_eq_true rfl) (.inr rfl) (jk_failX (jk_XD_row hEq.1 hwo _ _).1 (by omega) (by omega)) (by omega) ?_ rfl
          rintro r1 σz ⟨rfl, hEf, hf0, hf2⟩
          rename jw_H => σf
          show jw_W (js_S n) _ md_87 56 [some (.inr (.inr 33)), some (.inr (.inr w)), some (.inl a), some (.inl sg), some (.inl ((jk_h b m (σ 34 0)) - 48)), some (.inl (σa 34 0)), some (.inl v)] [] σf _
          refine jw_W_re rfl ?_
          exact ⟨rfl, jk_tendF hEq hwo hv3 hEf hf2 (by omega) (fun hz => .inl ⟨by have := hq2 hz; omega, by omega⟩)⟩
      · rename jw_H => σg
        have epl : σ 34 0 + 1 = σ 34 0 + 1 := by omega
        rw [ea0] at hl hv
        rw [epl] at hl hv
        have hcf : jk_cf (jk_h b m (σ 34 0)) ((jk_h b m (σ 34 0) - 48)) 1 := by unfold jk_cf; omega
        have hEq : jk_E n o b m σ σg := jk_E_tr hEa hE
        have eqw : σg w = σ w := hEq.2.2 w (by omega)
        have hlu := hl
        unfold jk_let at hlu
        have hv3 : 0 ≤ v ∧ v < 3 := by omega
        have htv := htw v hv3.1 hv3.2
        have hx6 : σg w (a + v) + sg * (jk_h b m (σ 34 0) - 48) = s * (t v + s' * (jk_h b m (σ 34 0) - 48)) := by rw [eqw, htv.1, hsg, Int.mul_add, Int.mul_assoc]
        have hc13 : 1 ≤ (jk_h b m (σ 34 0) - 48) ∧ (jk_h b m (σ 34 0) - 48) ≤ 3 := by omega
        have hx7 : -6 ≤ t v + s' * (jk_h b m (σ 34 0) - 48) ∧ t v + s' * (jk_h b m (σ 34 0) - 48) ≤ 6 := by rcases hs1 with e | e <;> rw [e] <;> omega
        have hx8 : (-6 ≤ σg w (a + v) + sg * (jk_h b m (σ 34 0) - 48) ∧ σg w (a + v) + sg * (jk_h b m (σ 34 0) - 48) ≤ 6) ∧ ((-3 ≤ σg w (a + v) + sg * (jk_h b m (σ 34 0) - 48) ∧ σg w (a + v) + sg * (jk_h b m (σ 34 0) - 48) ≤ 3) ↔ (-3 ≤ t v + s' * (jk_h b m (σ 34 0) - 48) ∧ t v + s' * (jk_h b m (σ 34 0) - 48) ≤ 3)) := by rw [hx6]; rcases hs0 with e | e <;> rw [e] <;> omega
        have hq2 : σg 34 2 = σ 34 2 := h2.trans ea2
        rw [eao] at hq
        have hq0 : σg 34 0 = σ 34 0 + 1 + 1 := by rw [h0]; omega
        have hgood : jk_h b m (σ 34 0 + 1) - 120 < σ o 0 := by omega
        show jw_W (js_S n) _ md_87 31 [some (.inr (.inr 33)), some (.inr (.inr w)), some (.inl a), some (.inl sg), some (.inl ((jk_h b m (σ 34 0)) - 48)), some (.inl (σa 34 0)), none] [.inl v] σg _
        refine jw_W_n 6 (i' := 37) (ls' := [some (.inr (.inr 33)), some (.inr (.inr w)), some (.inl a), some (.inl sg), some (.inl ((jk_h b m (σ 34 0)) - 48)), some (.inl (σa 34 0)), some (.inl v)]) (st' := [.inl (a + v), .inr (.inr w), .inl (a + v), .inr (.inr w)]) rfl ?_
        refine jw_W_ia rfl hw.2 (by omega) (by omega) (by omega) ?_
        show jw_W (js_S n) _ md_87 38 [some (.inr (.inr 33)), some (.inr (.inr w)), some (.inl a), some (.inl sg), some (.inl ((jk_h b m (σ 34 0)) - 48)), some (.inl (σa 34 0)), some (.inl v)] [.inl (σg w (a + v)), .inl (a + v), .inr (.inr w)] σg _
        refine jw_W_n 4 (i' := 42) (ls' := [some (.inr (.inr 33)), some (.inr (.inr w)), some (.inl a), some (.inl sg), some (.inl ((jk_h b m (σ 34 0)) - 48)), some (.inl (σa 34 0)), some (.inl v)]) (st' := [.inl ((σg w (a + v)) + (sg * ((jk_h b m (σ 34 0)) - 48))), .inl (a + v), .inr (.inr w)]) rfl ?_
        refine jw_W_is rfl (by omega) hw.2 (by omega) (by omega) (by omega) ?_
        refine jw_W_n 4 (i' := 47) (ls' := [some (.inr (.inr 33)), some (.inr (.inr w)), some (.inl a), some (.inl sg), some (.inl ((jk_h b m (σ 34 0)) - 48)), some (.inl (σa 34 0)), some (.inl v)]) (st' := [.inl (a + v), .inr (.inr w)]) rfl ?_
        refine jw_W_ia rfl hw.2 (by omega) (by omega) (by omega) ?_
        show jw_W (js_S n) _ md_87 48 [some (.inr (.inr 33)), some (.inr (.inr w)), some (.inl a), some (.inl sg), some (.inl ((jk_h b m (σ 34 0)) - 48)), some (.inl (σa 34 0)), some (.inl v)] [.inl ((jw_up σg w (a + v) ((σg w (a + v)) + (sg * ((jk_h b m (σ 34 0)) - 48)))) w (a + v))] ((jw_up σg w (a + v) ((σg w (a + v)) + (sg * ((jk_h b m (σ 34 0)) - 48))))) _
        rw [jw_up_eq]
        refine jw_W_abs rfl rfl (by unfold jw_rg; omega) (Nat.le_of_ble_eq_true rfl) ?_
        generalize hab : (if 0 ≤ (σg w (a + v)) + (sg * ((jk_h b m (σ 34 0)) - 48)) then (σg w (a + v)) + (sg * ((jk_h b m (σ 34 0)) - 48)) else -((σg w (a + v)) + (sg * ((jk_h b m (σ 34 0)) - 48)))) = ab
        have hab2 : (0 ≤ (σg w (a + v)) + (sg * ((jk_h b m (σ 34 0)) - 48)) ∧ ab = (σg w (a + v)) + (sg * ((jk_h b m (σ 34 0)) - 48))) ∨ ((σg w (a + v)) + (sg * ((jk_h b m (σ 34 0)) - 48)) < 0 ∧ ab = -((σg w (a + v)) + (sg * ((jk_h b m (σ 34 0)) - 48)))) := by
          by_cases hz : 0 ≤ (σg w (a + v)) + (sg * ((jk_h b m (σ 34 0)) - 48))
          · exact .inl ⟨hz, by rw [← hab, if_pos hz]⟩
          · exact .inr ⟨by omega, by rw [← hab, if_neg hz]⟩
        refine jw_W_n 1 (i' := 50) (ls' := [some (.inr (.inr 33)), some (.inr (.inr w)), some (.inl a), some (.inl sg), some (.inl ((jk_h b m (σ 34 0)) - 48)), some (.inl (σa 34 0)), some (.inl v)]) (st' := [.inl 3, .inl ab]) rfl ?_
        refine jw_W_ic rfl (by unfold jw_rg; omega) (by unfold jw_rg; omega) (fun hc11 => ?_) (fun hc11 => ?_)
        · have hc11 : ab ≤ 3 := hc11
          refine jw_W_re rfl ?_
          refine ⟨rfl, jk_tendN hEq hwo hv3 (fun hz => ?_)⟩
          rw [jk_trm_0 hcf hl hgood (by rw [← hv]; omega)]
          refine ⟨hq2.trans hz, fun _ => ⟨hq0, fun j j0 j1 => ?_⟩⟩
          show _ = s * (if j = _ then _ else _)
          rw [← hv, eqw]
          by_cases hj : j = v
          · rw [if_pos hj, if_pos hj, hj, ← eqw]
            exact hx6
          · rw [if_neg hj, if_neg hj]
            exact (htw j j0 j1).1
        · have hc11 : ¬ (ab ≤ 3) := hc11
          refine jw_W_n 1 (i' := 52) (ls' := [some (.inr (.inr 33)), some (.inr (.inr w)), some (.inl a), some (.inl sg), some (.inl ((jk_h b m (σ 34 0)) - 48)), some (.inl (σa 34 0)), some (.inl v)]) (st' := [.inr (.inr 33)]) rfl ?_
          refine jw_W_gf rfl rfl rfl ?_
          show jw_W (js_S n) _ md_87 53 [some (.inr (.inr 33)), some (.inr (.inr w)), some (.inl a), some (.inl sg), some (.inl ((jk_h b m (σ 34 0)) - 48)), some (.inl (σa 34 0)), some (.inl v)] [.inr (.inr 34)] ((jw_up σg w (a + v) ((σg w (a + v)) + (sg * ((jk_h b m (σ 34 0)) - 48))))) _
          refine jw_W_n 2 (i' := 55) (ls' := [some (.inr (.inr 33)), some (.inr (.inr w)), some (.inl a), some (.inl sg), some (.inl ((jk_h b m (σ 34 0)) - 48)), some (.inl (σa 34 0)), some (.inl v)]) (st' := [.inl (σa 34 0), .inl 3, .inr (.inr 34)]) rfl ?_
          refine jw_W_call (as := [.inr (.inr 34), .inl 3, .inl (σa 34 0)]) (rest := []) rfl rfl rfl rfl (Nat.le_of_ble_eq_true rfl) (.inr rfl) (jk_failX (jk_XD_row hEq.1 hwo _ _).1 (by omega) (by omega)) (by omega) ?_ rfl
          rintro r1 σz ⟨rfl, hEf, hf0, hf2⟩
          rename jw_H => σfg
          show jw_W (js_S n) _ md_87 56 [some (.inr (.inr 33)), some (.inr (.inr w)), some (.inl a), some (.inl sg), some (.inl ((jk_h b m (σ 34 0)) - 48)), some (.inl (σa 34 0)), some (.inl v)] [] σfg _
          refine jw_W_re rfl ?_
          exact ⟨rfl, jk_tendF hEq hwo hv3 hEf hf2 (by omega) (fun hz => .inr ⟨hq2.trans hz, (jk_trm_3 hcf hl hgood (by rw [← hv]; omega)).trans (by omega)⟩)⟩

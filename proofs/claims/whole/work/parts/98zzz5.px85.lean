/-! ===== texts: a quantity (class and reference) ===== -/
/-- the first fault stays -/
def jk_fl (σ : jw_H) (T : Nat) (c i : Int) : jw_H := if σ T 2 = 0 then jw_up σ T 2 (-1000 * c - i) else σ
theorem jk_fl_ne (σ : jw_H) (T : Nat) (c i : Int) {o : Nat} {j : Int} (h : o ≠ T ∨ j ≠ 2) : jk_fl σ T c i o j = σ o j := by
  unfold jk_fl
  split
  · by_cases ho : o = T
    · rw [ho, jw_up_ne _ (by omega)]
    · rw [jw_up_out _ _ _ ho]
  · rfl
def jk_let (x : Int) : Prop := 120 ≤ x ∧ x ≤ 122
theorem jk_readQ {n : Nat} {σ : jw_H} {o : Nat} (hpo : jx_po n o) (hto : (σ 33 2).toNat = o) {b : Int → Int} (ht : jk_tx σ 34 b) (h2 : jw_rg (σ 34 2)) (hq : 0 ≤ σ o 0 ∧ σ o 0 ≤ 3)  : jw_T (js_S n) 2 88 [.inr (.inr 33)] σ (fun r σ' => ∃ v, r = some (.inl v) ∧ ((¬ jk_let (jk_h b (σ 34 1) (σ 34 0)) ∧ v = 0 ∧ σ' = jk_fl σ 34 1 (σ 34 0)) ∨ (jk_let (jk_h b (σ 34 1) (σ 34 0)) ∧ v = jk_h b (σ 34 1) (σ 34 0) - 120 ∧ σ o 0 ≤ v ∧ σ' = jw_up (jk_fl σ 34 7 (σ 34 0)) 34 0 (σ 34 0 + 1)) ∨ (jk_let (jk_h b (σ 34 1) (σ 34 0)) ∧ v = jk_h b (σ 34 1) (σ 34 0) - 120 ∧ v < σ o 0 ∧ σ' = jw_up σ 34 0 (σ 34 0 + 1)))) := by
  refine jw_T_of (D := 1) (M := mm_88) rfl (Nat.le_of_ble_eq_true rfl) (ls0 := [some (.inr (.inr 33)), none]) rfl ?_ (by rintro _ _ ⟨_, rfl, -⟩; rfl)
  have ho := hpo.1
  have hhr := jk_h_rg (b := b) (n := σ 34 1) (i := σ 34 0) ht.2.1.1 (fun j j0 j1 => (ht.2.2.2 j j0 j1).2)
  have hq0 := ht.2.1
  refine jw_W_n 1 (i' := 1) (ls' := [some (.inr (.inr 33)), none]) (st' := [.inr (.inr 33)]) rfl ?_
  refine jw_W_gf rfl rfl rfl ?_
  show jw_W (js_S n) _ md_88 2 [some (.inr (.inr 33)), none] [.inr (.inr 34)] σ _
  refine jw_W_call (as := [.inr (.inr 34)]) (rest := []) rfl rfl rfl rfl (Nat.le_of_ble_eq_true rfl) (.inr rfl) (jk_here (jk_to_34 n) ht) (by omega) ?_ rfl
  rintro r1 σz ⟨rfl, hs⟩
  rw [hs]
  show jw_W (js_S n) _ md_88 3 [some (.inr (.inr 33)), none] [.inl (jk_h b (σ 34 1) (σ 34 0))] σ _
  refine jw_W_n 4 (i' := 7) (ls' := [some (.inr (.inr 33)), some (.inl ((jk_h b (σ 34 1) (σ 34 0)) - 120))]) (st' := [.inl ((jk_h b (σ 34 1) (σ 34 0)) - 120)]) rfl ?_
  refine jw_W_if rfl (by unfold jw_rg; omega) (fun hc1 => ?_) (fun hc1 => ?_)
  · have hc1 : ((jk_h b (σ 34 1) (σ 34 0)) - 120) < 0 := hc1
    refine jw_W_n 1 (i' := 12) (ls' := [some (.inr (.inr 33)), some (.inl ((jk_h b (σ 34 1) (σ 34 0)) - 120))]) (st' := [.inr (.inr 33)]) rfl ?_
    refine jw_W_gf rfl rfl rfl ?_
    show jw_W (js_S n) _ md_88 13 [some (.inr (.inr 33)), some (.inl ((jk_h b (σ 34 1) (σ 34 0)) - 120))] [.inr (.inr 34)] σ _
    refine jw_W_n 2 (i' := 15) (ls' := [some (.inr (.inr 33)), some (.inl ((jk_h b (σ 34 1) (σ 34 0)) - 120))]) (st' := [.inr (.inr 33), .inl 1, .inr (.inr 34)]) rfl ?_
    refine jw_W_gf rfl rfl rfl ?_
    show jw_W (js_S n) _ md_88 16 [some (.inr (.inr 33)), some (.inl ((jk_h b (σ 34 1) (σ 34 0)) - 120))] [.inr (.inr 34), .inl 1, .inr (.inr 34)] σ _
    refine jw_W_gf rfl rfl rfl ?_
    show jw_W (js_S n) _ md_88 17 [some (.inr (.inr 33)), some (.inl ((jk_h b (σ 34 1) (σ 34 0)) - 120))] [.inl (σ 34 0), .inl 1, .inr (.inr 34)] σ _
    refine jw_W_call (as := [.inr (.inr 34), .inl 1, .inl (σ 34 0)]) (rest := []) rfl rfl rfl rfl (Nat.le_of_ble_eq_true rfl) (.inr rfl) (jk_fail (jk_to_34 n) (by omega) (by omega) h2) (by omega) ?_ rfl
    rintro r1 σ1 ⟨rfl, hs⟩
    have hs2 : σ1 = jk_fl σ 34 1 (σ 34 0) := hs
    have e10 : σ1 34 0 = σ 34 0 := by rw [hs2]; exact jk_fl_ne _ _ _ _ (by omega)
    show jw_W (js_S n) _ md_88 18 [some (.inr (.inr 33)), some (.inl ((jk_h b (σ 34 1) (σ 34 0)) - 120))] [] σ1 _
    refine jw_W_n 1 (i' := 19) (ls' := [some (.inr (.inr 33)), some (.inl ((jk_h b (σ 34 1) (σ 34 0)) - 120))]) (st' := [.inl 0]) rfl ?_
    refine jw_W_ir rfl ?_
    exact ⟨_, rfl, .inl ⟨fun hh => by unfold jk_let at hh; omega, rfl, hs2⟩⟩
  · have hc1 : ¬ (((jk_h b (σ 34 1) (σ 34 0)) - 120) < 0) := hc1
    refine jw_W_n 2 (i' := 10) (ls' := [some (.inr (.inr 33)), some (.inl ((jk_h b (σ 34 1) (σ 34 0)) - 120))]) (st' := [.inl 3, .inl ((jk_h b (σ 34 1) (σ 34 0)) - 120)]) rfl ?_
    refine jw_W_ic rfl (by unfold jw_rg; omega) (by unfold jw_rg; omega) (fun hc2 => ?_) (fun hc2 => ?_)
    · have hc2 : ((jk_h b (σ 34 1) (σ 34 0)) - 120) < 3 := hc2
      refine jw_W_n 2 (i' := 22) (ls' := [some (.inr (.inr 33)), some (.inl ((jk_h b (σ 34 1) (σ 34 0)) - 120))]) (st' := [.inr (.inr 33), .inl ((jk_h b (σ 34 1) (σ 34 0)) - 120)]) rfl ?_
      refine jw_W_gf rfl rfl rfl ?_
      show jw_W (js_S n) _ md_88 23 [some (.inr (.inr 33)), some (.inl ((jk_h b (σ 34 1) (σ 34 0)) - 120))] [.inr (.inr ((σ 33 2).toNat)), .inl ((jk_h b (σ 34 1) (σ 34 0)) - 120)] σ _
      rw [hto]
      refine jw_W_gf rfl hpo.2.1 rfl ?_
      show jw_W (js_S n) _ md_88 24 [some (.inr (.inr 33)), some (.inl ((jk_h b (σ 34 1) (σ 34 0)) - 120))] [.inl (σ o 0), .inl ((jk_h b (σ 34 1) (σ 34 0)) - 120)] σ _
      refine jw_W_ic rfl (by unfold jw_rg; omega) (by unfold jw_rg; omega) (fun hc3 => ?_) (fun hc3 => ?_)
      · have hc3 : ((jk_h b (σ 34 1) (σ 34 0)) - 120) < (σ o 0) := hc3
        refine jw_W_n 1 (i' := 33) (ls' := [some (.inr (.inr 33)), some (.inl ((jk_h b (σ 34 1) (σ 34 0)) - 120))]) (st' := [.inr (.inr 33)]) rfl ?_
        refine jw_W_gf rfl rfl rfl ?_
        show jw_W (js_S n) _ md_88 34 [some (.inr (.inr 33)), some (.inl ((jk_h b (σ 34 1) (σ 34 0)) - 120))] [.inr (.inr 34)] σ _
        refine jw_W_n 1 (i' := 35) (ls' := [some (.inr (.inr 33)), some (.inl ((jk_h b (σ 34 1) (σ 34 0)) - 120))]) (st' := [.inr (.inr 34), .inr (.inr 34)]) rfl ?_
        refine jw_W_gf rfl rfl rfl ?_
        show jw_W (js_S n) _ md_88 36 [some (.inr (.inr 33)), some (.inl ((jk_h b (σ 34 1) (σ 34 0)) - 120))] [.inl (σ 34 0), .inr (.inr 34)] σ _
        refine jw_W_n 2 (i' := 38) (ls' := [some (.inr (.inr 33)), some (.inl ((jk_h b (σ 34 1) (σ 34 0)) - 120))]) (st' := [.inl (σ 34 0 + 1), .inr (.inr 34)]) rfl ?_
        refine jw_W_pf (a := σ 34 0 + 1) rfl (by omega) rfl rfl rfl rfl rfl ?_
        refine jw_W_n 1 (i' := 40) (ls' := [some (.inr (.inr 33)), some (.inl ((jk_h b (σ 34 1) (σ 34 0)) - 120))]) (st' := [.inl ((jk_h b (σ 34 1) (σ 34 0)) - 120)]) rfl ?_
        refine jw_W_ir rfl ?_
        exact ⟨_, rfl, .inr (.inr ⟨by unfold jk_let; omega, rfl, by omega, rfl⟩)⟩
      · have hc3 : ¬ (((jk_h b (σ 34 1) (σ 34 0)) - 120) < (σ o 0)) := hc3
        refine jw_W_n 1 (i' := 26) (ls' := [some (.inr (.inr 33)), some (.inl ((jk_h b (σ 34 1) (σ 34 0)) - 120))]) (st' := [.inr (.inr 33)]) rfl ?_
        refine jw_W_gf rfl rfl rfl ?_
        show jw_W (js_S n) _ md_88 27 [some (.inr (.inr 33)), some (.inl ((jk_h b (σ 34 1) (σ 34 0)) - 120))] [.inr (.inr 34)] σ _
        refine jw_W_n 2 (i' := 29) (ls' := [some (.inr (.inr 33)), some (.inl ((jk_h b (σ 34 1) (σ 34 0)) - 120))]) (st' := [.inr (.inr 33), .inl 7, .inr (.inr 34)]) rfl ?_
        refine jw_W_gf rfl rfl rfl ?_
        show jw_W (js_S n) _ md_88 30 [some (.inr (.inr 33)), some (.inl ((jk_h b (σ 34 1) (σ 34 0)) - 120))] [.inr (.inr 34), .inl 7, .inr (.inr 34)] σ _
        refine jw_W_gf rfl rfl rfl ?_
        show jw_W (js_S n) _ md_88 31 [some (.inr (.inr 33)), some (.inl ((jk_h b (σ 34 1) (σ 34 0)) - 120))] [.inl (σ 34 0), .inl 7, .inr (.inr 34)] σ _
        refine jw_W_call (as := [.inr (.inr 34), .inl 7, .inl (σ 34 0)]) (rest := []) rfl rfl rfl rfl (Nat.le_of_ble_eq_true rfl) (.inr rfl) (jk_fail (jk_to_34 n) (by omega) (by omega) h2) (by omega) ?_ rfl
        rintro r1 σ1 ⟨rfl, hs⟩
        have hs2 : σ1 = jk_fl σ 34 7 (σ 34 0) := hs
        have e10 : σ1 34 0 = σ 34 0 := by rw [hs2]; exact jk_fl_ne _ _ _ _ (by omega)
        show jw_W (js_S n) _ md_88 32 [some (.inr (.inr 33)), some (.inl ((jk_h b (σ 34 1) (σ 34 0)) - 120))] [] σ1 _
        refine jw_W_n 1 (i' := 33) (ls' := [some (.inr (.inr 33)), some (.inl ((jk_h b (σ 34 1) (σ 34 0)) - 120))]) (st' := [.inr (.inr 33)]) rfl ?_
        refine jw_W_gf rfl rfl rfl ?_
        show jw_W (js_S n) _ md_88 34 [some (.inr (.inr 33)), some (.inl ((jk_h b (σ 34 1) (σ 34 0)) - 120))] [.inr (.inr 34)] σ1 _
        refine jw_W_n 1 (i' := 35) (ls' := [some (.inr (.inr 33)), some (.inl ((jk_h b (σ 34 1) (σ 34 0)) - 120))]) (st' := [.inr (.inr 34), .inr (.inr 34)]) rfl ?_
        refine jw_W_gf rfl rfl rfl ?_
        show jw_W (js_S n) _ md_88 36 [some (.inr (.inr 33)), some (.inl ((jk_h b (σ 34 1) (σ 34 0)) - 120))] [.inl (σ1 34 0), .inr (.inr 34)] σ1 _
        refine jw_W_n 2 (i' := 38) (ls' := [some (.inr (.inr 33)), some (.inl ((jk_h b (σ 34 1) (σ 34 0)) - 120))]) (st' := [.inl (σ1 34 0 + 1), .inr (.inr 34)]) rfl ?_
        refine jw_W_pf (a := σ1 34 0 + 1) rfl (by omega) rfl rfl rfl rfl rfl ?_
        refine jw_W_n 1 (i' := 40) (ls' := [some (.inr (.inr 33)), some (.inl ((jk_h b (σ 34 1) (σ 34 0)) - 120))]) (st' := [.inl ((jk_h b (σ 34 1) (σ 34 0)) - 120)]) rfl ?_
        refine jw_W_ir rfl ?_
        refine ⟨_, rfl, .inr (.inl ⟨by unfold jk_let; omega, rfl, by omega, ?_⟩)⟩
        rw [← hs2, e10]
        rfl
    · have hc2 : ¬ (((jk_h b (σ 34 1) (σ 34 0)) - 120) < 3) := hc2
      refine jw_W_n 1 (i' := 12) (ls' := [some (.inr (.inr 33)), some (.inl ((jk_h b (σ 34 1) (σ 34 0)) - 120))]) (st' := [.inr (.inr 33)]) rfl ?_
      refine jw_W_gf rfl rfl rfl ?_
      show jw_W (js_S n) _ md_88 13 [some (.inr (.inr 33)), some (.inl ((jk_h b (σ 34 1) (σ 34 0)) - 120))] [.inr (.inr 34)] σ _
      refine jw_W_n 2 (i' := 15) (ls' := [some (.inr (.inr 33)), some (.inl ((jk_h b (σ 34 1) (σ 34 0)) - 120))]) (st' := [.inr (.inr 33), .inl 1, .inr (.inr 34)]) rfl ?_
      refine jw_W_gf rfl rfl rfl ?_
      show jw_W (js_S n) _ md_88 16 [some (.inr (.inr 33)), some (.inl ((jk_h b (σ 34 1) (σ 34 0)) - 120))] [.inr (.inr 34), .inl 1, .inr (.inr 34)] σ _
      refine jw_W_gf rfl rfl rfl ?_
      show jw_W (js_S n) _ md_88 17 [some (.inr (.inr 33)), some (.inl ((jk_h b (σ 34 1) (σ 34 0)) - 120))] [.inl (σ 34 0), .inl 1, .inr (.inr 34)] σ _
      refine jw_W_call (as := [.inr (.inr 34), .inl 1, .inl (σ 34 0)]) (rest := []) rfl rfl rfl rfl (Nat.le_of_ble_eq_true rfl) (.inr rfl) (jk_fail (jk_to_34 n) (by omega) (by omega) h2) (by omega) ?_ rfl
      rintro r1 σ1 ⟨rfl, hs⟩
      have hs2 : σ1 = jk_fl σ 34 1 (σ 34 0) := hs
      have e10 : σ1 34 0 = σ 34 0 := by rw [hs2]; exact jk_fl_ne _ _ _ _ (by omega)
      show jw_W (js_S n) _ md_88 18 [some (.inr (.inr 33)), some (.inl ((jk_h b (σ 34 1) (σ 34 0)) - 120))] [] σ1 _
      refine jw_W_n 1 (i' := 19) (ls' := [some (.inr (.inr 33)), some (.inl ((jk_h b (σ 34 1) (σ 34 0)) - 120))]) (st' := [.inl 0]) rfl ?_
      refine jw_W_ir rfl ?_
      exact ⟨_, rfl, .inl ⟨fun hh => by unfold jk_let at hh; omega, rfl, hs2⟩⟩
theorem jk_readsQ {n : Nat} {σ : jw_H} {b : Int → Int} (ht : jk_tr σ b) (hq : 0 ≤ σ 103 34 ∧ σ 103 34 ≤ 3)  : jw_T (js_S n) 2 215 [.inr (.inr 103)] σ (fun r σ' => (r = some (.inl 0) ∧ ¬ jk_let (jk_h b (σ 103 9) (σ 103 8)) ∧ σ' = jw_up σ 103 10 (-1000 * 1 - σ 103 8)) ∨ (r = some (.inl 0) ∧ jk_let (jk_h b (σ 103 9) (σ 103 8)) ∧ σ 103 34 ≤ jk_h b (σ 103 9) (σ 103 8) - 120 ∧ σ' = jw_up σ 103 10 (-1000 * 7 - σ 103 8)) ∨ (r = some (.inl 1) ∧ jk_let (jk_h b (σ 103 9) (σ 103 8)) ∧ jk_h b (σ 103 9) (σ 103 8) - 120 < σ 103 34 ∧ σ' = jw_up σ 103 11 (jk_h b (σ 103 9) (σ 103 8) - 120))) := by
  refine jw_T_of (D := 1) (M := mm_215) rfl (Nat.le_of_ble_eq_true rfl) (ls0 := [some (.inr (.inr 103)), none]) rfl ?_ (by rintro _ _ (⟨rfl, -⟩ | ⟨rfl, -⟩ | ⟨rfl, -⟩) <;> rfl)
  have hhr := jk_h_rg (b := b) (n := σ 103 9) (i := σ 103 8) ht.1.1 (fun j j0 j1 => (ht.2.2 j j0 j1).2.2)
  have hq0 := ht.1
  refine jw_W_n 1 (i' := 1) (ls' := [some (.inr (.inr 103)), none]) (st' := [.inr (.inr 103)]) rfl ?_
  refine jw_W_call (as := [.inr (.inr 103)]) (rest := []) rfl rfl rfl rfl (Nat.le_of_ble_eq_true rfl) (.inr rfl) (jk_hereR ht) (by omega) ?_ rfl
  rintro r1 σz ⟨rfl, hs⟩
  rw [hs]
  show jw_W (js_S n) _ md_215 2 [some (.inr (.inr 103)), none] [.inl (jk_h b (σ 103 9) (σ 103 8))] σ _
  refine jw_W_n 6 (i' := 8) (ls' := [some (.inr (.inr 103)), some (.inl ((jk_h b (σ 103 9) (σ 103 8)) - 120))]) (st' := [.inl 2, .inl 0, .inl ((jk_h b (σ 103 9) (σ 103 8)) - 120)]) rfl ?_
  refine jw_W_call (as := [.inl ((jk_h b (σ 103 9) (σ 103 8)) - 120), .inl 0, .inl 2]) (rest := []) rfl rfl rfl rfl (Nat.le_of_ble_eq_true rfl) (.inl rfl) (jm_in (by unfold jw_rg; omega) (by unfold jw_rg; omega) (by unfold jw_rg; omega)) (by omega) ?_ rfl
  rintro r1 σz (⟨rfl, hs, q1⟩ | ⟨rfl, hs, q1⟩)
  · rw [hs]
    show jw_W (js_S n) _ md_215 9 [some (.inr (.inr 103)), some (.inl ((jk_h b (σ 103 9) (σ 103 8)) - 120))] [.inl 1] σ _
    refine jw_W_if rfl (by unfold jw_rg; omega) (fun hc1 => ?_) (fun hc1 => ?_)
    · clear hc1
      refine jw_W_n 2 (i' := 18) (ls' := [some (.inr (.inr 103)), some (.inl ((jk_h b (σ 103 9) (σ 103 8)) - 120))]) (st' := [.inr (.inr 103), .inl ((jk_h b (σ 103 9) (σ 103 8)) - 120)]) rfl ?_
      refine jw_W_gf rfl rfl rfl ?_
      show jw_W (js_S n) _ md_215 19 [some (.inr (.inr 103)), some (.inl ((jk_h b (σ 103 9) (σ 103 8)) - 120))] [.inl (σ 103 34), .inl ((jk_h b (σ 103 9) (σ 103 8)) - 120)] σ _
      refine jw_W_ic rfl (by unfold jw_rg; omega) (by unfold jw_rg; omega) (fun hc2 => ?_) (fun hc2 => ?_)
      · have hc2 : ((jk_h b (σ 103 9) (σ 103 8)) - 120) < (σ 103 34) := hc2
        refine jw_W_n 2 (i' := 28) (ls' := [some (.inr (.inr 103)), some (.inl ((jk_h b (σ 103 9) (σ 103 8)) - 120))]) (st' := [.inl ((jk_h b (σ 103 9) (σ 103 8)) - 120), .inr (.inr 103)]) rfl ?_
        refine jw_W_pf (a := (jk_h b (σ 103 9) (σ 103 8)) - 120) rfl (by omega) rfl rfl rfl rfl rfl ?_
        refine jw_W_n 1 (i' := 30) (ls' := [some (.inr (.inr 103)), some (.inl ((jk_h b (σ 103 9) (σ 103 8)) - 120))]) (st' := [.inl 1]) rfl ?_
        refine jw_W_ir rfl ?_
        exact .inr (.inr ⟨rfl, by unfold jk_let; omega, by omega, rfl⟩)
      · have hc2 : ¬ (((jk_h b (σ 103 9) (σ 103 8)) - 120) < (σ 103 34)) := hc2
        refine jw_W_n 3 (i' := 23) (ls' := [some (.inr (.inr 103)), some (.inl ((jk_h b (σ 103 9) (σ 103 8)) - 120))]) (st' := [.inr (.inr 103), .inl 7, .inr (.inr 103)]) rfl ?_
        refine jw_W_gf rfl rfl rfl ?_
        show jw_W (js_S n) _ md_215 24 [some (.inr (.inr 103)), some (.inl ((jk_h b (σ 103 9) (σ 103 8)) - 120))] [.inl (σ 103 8), .inl 7, .inr (.inr 103)] σ _
        refine jw_W_call (as := [.inr (.inr 103), .inl 7, .inl (σ 103 8)]) (rest := []) rfl rfl rfl rfl (Nat.le_of_ble_eq_true rfl) (.inr rfl) (jk_wrongAt (by omega) (by omega)) (by omega) ?_ rfl
        rintro r1 σz ⟨rfl, hs⟩
        rw [hs]
        show jw_W (js_S n) _ md_215 25 [some (.inr (.inr 103)), some (.inl ((jk_h b (σ 103 9) (σ 103 8)) - 120))] [.inl 0] ((jw_up σ 103 10 (-1000 * 7 - σ 103 8))) _
        refine jw_W_ir rfl ?_
        exact .inr (.inl ⟨rfl, by unfold jk_let; omega, by omega, rfl⟩)
    · exact absurd hc1 (show ¬ ¬ ((1 : Int) ≠ 0) by omega)
  · rw [hs]
    show jw_W (js_S n) _ md_215 9 [some (.inr (.inr 103)), some (.inl ((jk_h b (σ 103 9) (σ 103 8)) - 120))] [.inl 0] σ _
    refine jw_W_if rfl (by unfold jw_rg; omega) (fun hc3 => ?_) (fun hc3 => ?_)
    · exact absurd hc3 (show ¬ ((0 : Int) ≠ 0) by omega)
    · clear hc3
      refine jw_W_n 3 (i' := 13) (ls' := [some (.inr (.inr 103)), some (.inl ((jk_h b (σ 103 9) (σ 103 8)) - 120))]) (st' := [.inr (.inr 103), .inl 1, .inr (.inr 103)]) rfl ?_
      refine jw_W_gf rfl rfl rfl ?_
      show jw_W (js_S n) _ md_215 14 [some (.inr (.inr 103)), some (.inl ((jk_h b (σ 103 9) (σ 103 8)) - 120))] [.inl (σ 103 8), .inl 1, .inr (.inr 103)] σ _
      refine jw_W_call (as := [.inr (.inr 103), .inl 1, .inl (σ 103 8)]) (rest := []) rfl rfl rfl rfl (Nat.le_of_ble_eq_true rfl) (.inr rfl) (jk_wrongAt (by omega) (by omega)) (by omega) ?_ rfl
      rintro r1 σz ⟨rfl, hs⟩
      rw [hs]
      show jw_W (js_S n) _ md_215 15 [some (.inr (.inr 103)), some (.inl ((jk_h b (σ 103 9) (σ 103 8)) - 120))] [.inl 0] ((jw_up σ 103 10 (-1000 * 1 - σ 103 8))) _
      refine jw_W_ir rfl ?_
      exact .inl ⟨rfl, fun hh => by unfold jk_let at hh; omega, rfl⟩
